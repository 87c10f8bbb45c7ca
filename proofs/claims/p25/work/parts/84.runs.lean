/-! ===== own: the law's runs ===== -/
theorem IV.l11 {h h' : Hp} {D : Nat → Int32} (I : IV h D) (J : IV h' D) : xLS h' 11 = xLS h 11 := by
  have h1 := I.W.t20
  have h2 := J.W.t20
  exact nI_inj (by omega) (by omega) (J.2.2.2.2.1.symm.trans I.2.2.2.2.1)
theorem c_runs {g : GT} {d : Nat} (hd : 17 ≤ d) {h : Hp} {D S : Nat → Int32} {N : Nat} (I : IV h D) (x z : Int32) : CL g M_L_runs d 60 1000 [.inr (1, some 0), .inr (2, some 0), .inr (3, some 0), .inl (.int x), .inl (.int z)] (h, h, D, S, N) (PL S N) := by
  obtain ⟨n, n10, hn, d0⟩ := I.d0
  have d1 : D 1 = nI (xLS h 11) := I.2.2.2.2.1
  have d2 : D 2 = nI (xLS h 12) := I.2.2.2.2.2.1
  have h20 := I.W.t20
  have h30 := I.W.b30
  refine cl_body rfl rfl (by decide) (Nat.le_of_ble_eq_true rfl) ?_
  refine wq_run [(.aload_n 2, 1), (.iconst 1, 1)] (pc' := 2) (L' := [(0, .inr (1, some 0)), (1, .inr (2, some 0)), (2, .inr (3, some 0)), (3, .inl (.int x)), (4, .inl (.int z))]) (st' := [.inl (.int 1), .inr (3, some 0)]) ⟨dL_runs_0, dL_runs_1, trivial⟩ rfl rfl ?_
  refine wl_dldE (k := 1) (v := (nI (xLS h 11))) (by omega) rfl d1 dL_runs_2 ?_
  refine wl_if_ne (tgt := 54) dL_runs_3 (by decide) (fun h3 => ?_) (fun h3 => ?_)
  · have h3 : ¬ (((xLS h 11 : Nat) : Int) = (0 : Int)) := fun z => h3 ((c_eq (nI_toInt (by omega)) (by decide : (0 : Int32).toInt = 0)).mpr z)
    refine wq_run [(.iload_n 3, 1), (.bipush 8, 2)] (pc' := 57) (L' := [(0, .inr (1, some 0)), (1, .inr (2, some 0)), (2, .inr (3, some 0)), (3, .inl (.int x)), (4, .inl (.int z))]) (st' := [.inl (.int 8), .inl (.int x)]) ⟨dL_runs_54, dL_runs_55, trivial⟩ rfl rfl ?_
    obtain ⟨j57, j57l, j57k⟩ := some_ex (x := x) (m := 8) (n := 8) rfl (by omega) (by omega)
    refine wl_static (M := M_L_runs) (uc := 60) (us := 1000) (bc := 0) (bs := 0) (As := [.inl (.int x), .inl (.int 8)]) (rest := []) (ok_L_some _ _) ml_L_117 st_L_some (by omega) (j57k (d - 1)) rfl rfl (Nat.le_of_ble_eq_true rfl) dL_runs_57 (fun r9 h9 e9 => ?_) (fun E9 h9 e9 => nomatch e9.1)
    obtain ⟨e9, rfl⟩ := e9
    cases e9
    refine wq_run [(.istore 5, 2), (.iload 4, 2), (.aload_n 2, 1), (.iconst 1, 1)] (pc' := 66) (L' := [(5, .inl (.int (nI j57))), (0, .inr (1, some 0)), (1, .inr (2, some 0)), (2, .inr (3, some 0)), (3, .inl (.int x)), (4, .inl (.int z))]) (st' := [.inl (.int 1), .inr (3, some 0), .inl (.int z)]) ⟨dL_runs_60, dL_runs_62, dL_runs_64, dL_runs_65, trivial⟩ rfl rfl ?_
    refine wl_dldE (k := 1) (v := (nI (xLS h 11))) (by omega) rfl d1 dL_runs_66 ?_
    obtain ⟨j67, j67l, j67k⟩ := some_ex (x := z) (m := (nI (xLS h 11))) (n := xLS h 11) rfl (by omega) (by omega)
    refine wl_static (M := M_L_runs) (uc := 60) (us := 1000) (bc := 0) (bs := 0) (As := [.inl (.int z), .inl (.int (nI (xLS h 11)))]) (rest := []) (ok_L_some _ _) ml_L_117 st_L_some (by omega) (j67k (d - 1)) rfl rfl (Nat.le_of_ble_eq_true rfl) dL_runs_67 (fun r9 h9 e9 => ?_) (fun E9 h9 e9 => nomatch e9.1)
    obtain ⟨e9, rfl⟩ := e9
    cases e9
    refine wq_run [(.istore 6, 2), (.iload 4, 2), (.iconst 5, 1), (.ishr, 1), (.iconst 3, 1)] (pc' := 77) (L' := [(6, .inl (.int (nI j67))), (5, .inl (.int (nI j57))), (0, .inr (1, some 0)), (1, .inr (2, some 0)), (2, .inr (3, some 0)), (3, .inl (.int x)), (4, .inl (.int z))]) (st' := [.inl (.int 3), .inl (.int (z >>> (5 &&& 31)))]) ⟨dL_runs_70, dL_runs_72, dL_runs_74, dL_runs_75, dL_runs_76, trivial⟩ rfl rfl ?_
    obtain ⟨j77, j77l, j77k⟩ := some_ex (x := (z >>> (5 &&& 31))) (m := 3) (n := 3) rfl (by omega) (by omega)
    refine wl_static (M := M_L_runs) (uc := 60) (us := 1000) (bc := 0) (bs := 0) (As := [.inl (.int (z >>> (5 &&& 31))), .inl (.int 3)]) (rest := []) (ok_L_some _ _) ml_L_117 st_L_some (by omega) (j77k (d - 1)) rfl rfl (Nat.le_of_ble_eq_true rfl) dL_runs_77 (fun r9 h9 e9 => ?_) (fun E9 h9 e9 => nomatch e9.1)
    obtain ⟨e9, rfl⟩ := e9
    cases e9
    refine wq_run [(.istore 7, 2), (.iload 5, 2), (.iconst 2, 1)] (pc' := 85) (L' := [(7, .inl (.int (nI j77))), (6, .inl (.int (nI j67))), (5, .inl (.int (nI j57))), (0, .inr (1, some 0)), (1, .inr (2, some 0)), (2, .inr (3, some 0)), (3, .inl (.int x)), (4, .inl (.int z))]) (st' := [.inl (.int 2), .inl (.int (nI j57))]) ⟨dL_runs_80, dL_runs_82, dL_runs_84, trivial⟩ rfl rfl ?_
    refine wl_icmp_ge (tgt := 157) dL_runs_85 (by decide) (fun h85 => ?_) (fun h85 => ?_)
    · have h85 : (2 : Int) ≤ ((j57 : Nat) : Int) := (c_le (by decide : (2 : Int32).toInt = 2) (nI_toInt (by omega))).mp h85
      refine wq_run [(.iload 5, 2), (.iconst 5, 1)] (pc' := 160) (L' := [(7, .inl (.int (nI j77))), (6, .inl (.int (nI j67))), (5, .inl (.int (nI j57))), (0, .inr (1, some 0)), (1, .inr (2, some 0)), (2, .inr (3, some 0)), (3, .inl (.int x)), (4, .inl (.int z))]) (st' := [.inl (.int 5), .inl (.int (nI j57))]) ⟨dL_runs_157, dL_runs_159, trivial⟩ rfl rfl ?_
      refine wl_icmp_ge (tgt := 246) dL_runs_160 (by decide) (fun h160 => ?_) (fun h160 => ?_)
      · have h160 : (5 : Int) ≤ ((j57 : Nat) : Int) := (c_le (by decide : (5 : Int32).toInt = 5) (nI_toInt (by omega))).mp h160
        refine wq_run [(.iload 5, 2), (.bipush 7, 2)] (pc' := 250) (L' := [(7, .inl (.int (nI j77))), (6, .inl (.int (nI j67))), (5, .inl (.int (nI j57))), (0, .inr (1, some 0)), (1, .inr (2, some 0)), (2, .inr (3, some 0)), (3, .inl (.int x)), (4, .inl (.int z))]) (st' := [.inl (.int 7), .inl (.int (nI j57))]) ⟨dL_runs_246, dL_runs_248, trivial⟩ rfl rfl ?_
        refine wl_icmp_ge (tgt := 301) dL_runs_250 (by decide) (fun h250 => ?_) (fun h250 => ?_)
        · have h250 : (7 : Int) ≤ ((j57 : Nat) : Int) := (c_le (by decide : (7 : Int32).toInt = 7) (nI_toInt (by omega))).mp h250
          refine wq_run [(.aload_n 0, 1), (.aload_n 1, 1), (.bipush 6, 2), (.iload 4, 2), (.iconst 3, 1)] (pc' := 308) (L' := [(7, .inl (.int (nI j77))), (6, .inl (.int (nI j67))), (5, .inl (.int (nI j57))), (0, .inr (1, some 0)), (1, .inr (2, some 0)), (2, .inr (3, some 0)), (3, .inl (.int x)), (4, .inl (.int z))]) (st' := [.inl (.int 3), .inl (.int z), .inl (.int 6), .inr (2, some 0), .inr (1, some 0)]) ⟨dL_runs_301, dL_runs_302, dL_runs_303, dL_runs_305, dL_runs_307, trivial⟩ rfl rfl ?_
          obtain ⟨j308, j308l, j308k⟩ := some_ex (x := z) (m := 3) (n := 3) rfl (by omega) (by omega)
          refine wl_static (M := M_L_runs) (uc := 60) (us := 1000) (bc := 0) (bs := 0) (As := [.inl (.int z), .inl (.int 3)]) (rest := [.inl (.int 6), .inr (2, some 0), .inr (1, some 0)]) (ok_L_some _ _) ml_L_117 st_L_some (by omega) (j308k (d - 1)) rfl rfl (Nat.le_of_ble_eq_true rfl) dL_runs_308 (fun r9 h9 e9 => ?_) (fun E9 h9 e9 => nomatch e9.1)
          obtain ⟨e9, rfl⟩ := e9
          cases e9
          refine wq_run [(.iload 4, 2), (.iconst 3, 1), (.ishr, 1), (.sipush 1000, 3)] (pc' := 318) (L' := [(7, .inl (.int (nI j77))), (6, .inl (.int (nI j67))), (5, .inl (.int (nI j57))), (0, .inr (1, some 0)), (1, .inr (2, some 0)), (2, .inr (3, some 0)), (3, .inl (.int x)), (4, .inl (.int z))]) (st' := [.inl (.int 1000), .inl (.int (z >>> (3 &&& 31))), .inl (.int (nI j308)), .inl (.int 6), .inr (2, some 0), .inr (1, some 0)]) ⟨dL_runs_311, dL_runs_313, dL_runs_314, dL_runs_315, trivial⟩ rfl rfl ?_
          obtain ⟨j318, j318l, j318k⟩ := some_ex (x := (z >>> (3 &&& 31))) (m := 1000) (n := 1000) rfl (by omega) (by omega)
          refine wl_static (M := M_L_runs) (uc := 60) (us := 1000) (bc := 0) (bs := 0) (As := [.inl (.int (z >>> (3 &&& 31))), .inl (.int 1000)]) (rest := [.inl (.int (nI j308)), .inl (.int 6), .inr (2, some 0), .inr (1, some 0)]) (ok_L_some _ _) ml_L_117 st_L_some (by omega) (j318k (d - 1)) rfl rfl (Nat.le_of_ble_eq_true rfl) dL_runs_318 (fun r9 h9 e9 => ?_) (fun E9 h9 e9 => nomatch e9.1)
          obtain ⟨e9, rfl⟩ := e9
          cases e9
          refine wq_run [(.iload 4, 2), (.iconst 5, 1), (.ishr, 1), (.bipush 100, 2)] (pc' := 327) (L' := [(7, .inl (.int (nI j77))), (6, .inl (.int (nI j67))), (5, .inl (.int (nI j57))), (0, .inr (1, some 0)), (1, .inr (2, some 0)), (2, .inr (3, some 0)), (3, .inl (.int x)), (4, .inl (.int z))]) (st' := [.inl (.int 100), .inl (.int (z >>> (5 &&& 31))), .inl (.int (nI j318)), .inl (.int (nI j308)), .inl (.int 6), .inr (2, some 0), .inr (1, some 0)]) ⟨dL_runs_321, dL_runs_323, dL_runs_324, dL_runs_325, trivial⟩ rfl rfl ?_
          obtain ⟨j327, j327l, j327k⟩ := some_ex (x := (z >>> (5 &&& 31))) (m := 100) (n := 100) rfl (by omega) (by omega)
          refine wl_static (M := M_L_runs) (uc := 60) (us := 1000) (bc := 0) (bs := 0) (As := [.inl (.int (z >>> (5 &&& 31))), .inl (.int 100)]) (rest := [.inl (.int (nI j318)), .inl (.int (nI j308)), .inl (.int 6), .inr (2, some 0), .inr (1, some 0)]) (ok_L_some _ _) ml_L_117 st_L_some (by omega) (j327k (d - 1)) rfl rfl (Nat.le_of_ble_eq_true rfl) dL_runs_327 (fun r9 h9 e9 => ?_) (fun E9 h9 e9 => nomatch e9.1)
          obtain ⟨e9, rfl⟩ := e9
          cases e9
          refine wq_run [(.iload 4, 2), (.bipush 7, 2), (.ishr, 1), (.sipush 1000, 3)] (pc' := 338) (L' := [(7, .inl (.int (nI j77))), (6, .inl (.int (nI j67))), (5, .inl (.int (nI j57))), (0, .inr (1, some 0)), (1, .inr (2, some 0)), (2, .inr (3, some 0)), (3, .inl (.int x)), (4, .inl (.int z))]) (st' := [.inl (.int 1000), .inl (.int (z >>> (7 &&& 31))), .inl (.int (nI j327)), .inl (.int (nI j318)), .inl (.int (nI j308)), .inl (.int 6), .inr (2, some 0), .inr (1, some 0)]) ⟨dL_runs_330, dL_runs_332, dL_runs_334, dL_runs_335, trivial⟩ rfl rfl ?_
          obtain ⟨j338, j338l, j338k⟩ := some_ex (x := (z >>> (7 &&& 31))) (m := 1000) (n := 1000) rfl (by omega) (by omega)
          refine wl_static (M := M_L_runs) (uc := 60) (us := 1000) (bc := 0) (bs := 0) (As := [.inl (.int (z >>> (7 &&& 31))), .inl (.int 1000)]) (rest := [.inl (.int (nI j327)), .inl (.int (nI j318)), .inl (.int (nI j308)), .inl (.int 6), .inr (2, some 0), .inr (1, some 0)]) (ok_L_some _ _) ml_L_117 st_L_some (by omega) (j338k (d - 1)) rfl rfl (Nat.le_of_ble_eq_true rfl) dL_runs_338 (fun r9 h9 e9 => ?_) (fun E9 h9 e9 => nomatch e9.1)
          obtain ⟨e9, rfl⟩ := e9
          cases e9
          obtain ⟨q2, q1⟩ := iv_prices I (f := j308) (x := j318) (y := j327) (z := j338) (by omega) (by omega) (by omega) (by omega)
          refine wl_static (M := M_L_runs) (uc := 52) (us := 952) (bc := 8) (bs := 48) (As := [.inr (1, some 0), .inr (2, some 0), .inl (.int 6), .inl (.int (nI j308)), .inl (.int (nI j318)), .inl (.int (nI j327)), .inl (.int (nI j338))]) (rest := []) (ok_L_both _ _) ml_L_120 st_L_both (by omega) (b_prices (d := d - 1) (by omega) I.1 (nI j308) (nI j318) (nI j327) (nI j338)) rfl rfl (Nat.le_of_ble_eq_true rfl) dL_runs_341 (fun r9 h9 e9 => ?_) (fun E9 h9 e9 => nomatch e9.1)
          obtain ⟨e9, rfl⟩ := e9
          cases e9
          rw [q1]
          refine wl_if_ne (tgt := 351) dL_runs_344 (by decide) (fun h => absurd h (by decide)) (fun _ => ?_)
          refine wq_run [(.iconst 1, 1)] (pc' := 348) (L' := [(7, .inl (.int (nI j77))), (6, .inl (.int (nI j67))), (5, .inl (.int (nI j57))), (0, .inr (1, some 0)), (1, .inr (2, some 0)), (2, .inr (3, some 0)), (3, .inl (.int x)), (4, .inl (.int z))]) (st' := [.inl (.int 1)]) ⟨dL_runs_347, trivial⟩ rfl rfl ?_
          refine wl_goto (tgt := 352) dL_runs_348 (by decide) ?_
          exact wl_zret rfl rfl rfl dL_runs_352 ⟨rfl, _, _, rfl, q2⟩
        · have h250 : ¬ ((7 : Int) ≤ ((j57 : Nat) : Int)) := fun z => h250 ((c_le (by decide : (7 : Int32).toInt = 7) (nI_toInt (by omega))).mpr z)
          refine wq_run [(.aload_n 0, 1), (.aload_n 1, 1), (.iconst 5, 1), (.iload 6, 2), (.iload 4, 2), (.bipush 8, 2), (.ishr, 1), (.bipush 30, 2)] (pc' := 265) (L' := [(7, .inl (.int (nI j77))), (6, .inl (.int (nI j67))), (5, .inl (.int (nI j57))), (0, .inr (1, some 0)), (1, .inr (2, some 0)), (2, .inr (3, some 0)), (3, .inl (.int x)), (4, .inl (.int z))]) (st' := [.inl (.int 30), .inl (.int (z >>> (8 &&& 31))), .inl (.int (nI j67)), .inl (.int 5), .inr (2, some 0), .inr (1, some 0)]) ⟨dL_runs_253, dL_runs_254, dL_runs_255, dL_runs_256, dL_runs_258, dL_runs_260, dL_runs_262, dL_runs_263, trivial⟩ rfl rfl ?_
          obtain ⟨j265, j265l, j265k⟩ := some_ex (x := (z >>> (8 &&& 31))) (m := 30) (n := 30) rfl (by omega) (by omega)
          refine wl_static (M := M_L_runs) (uc := 60) (us := 1000) (bc := 0) (bs := 0) (As := [.inl (.int (z >>> (8 &&& 31))), .inl (.int 30)]) (rest := [.inl (.int (nI j67)), .inl (.int 5), .inr (2, some 0), .inr (1, some 0)]) (ok_L_some _ _) ml_L_117 st_L_some (by omega) (j265k (d - 1)) rfl rfl (Nat.le_of_ble_eq_true rfl) dL_runs_265 (fun r9 h9 e9 => ?_) (fun E9 h9 e9 => nomatch e9.1)
          obtain ⟨e9, rfl⟩ := e9
          cases e9
          refine wq_run [(.iconst 0, 1), (.iconst 0, 1)] (pc' := 270) (L' := [(7, .inl (.int (nI j77))), (6, .inl (.int (nI j67))), (5, .inl (.int (nI j57))), (0, .inr (1, some 0)), (1, .inr (2, some 0)), (2, .inr (3, some 0)), (3, .inl (.int x)), (4, .inl (.int z))]) (st' := [.inl (.int 0), .inl (.int 0), .inl (.int (nI j265)), .inl (.int (nI j67)), .inl (.int 5), .inr (2, some 0), .inr (1, some 0)]) ⟨dL_runs_268, dL_runs_269, trivial⟩ rfl rfl ?_
          obtain ⟨q2, q1⟩ := iv_note I (t := j67) (k := j265) (by omega) (by omega)
          refine wl_static (M := M_L_runs) (uc := 54) (us := 964) (bc := 6) (bs := 36) (As := [.inr (1, some 0), .inr (2, some 0), .inl (.int 5), .inl (.int (nI j67)), .inl (.int (nI j265)), .inl (.int 0), .inl (.int 0)]) (rest := []) (ok_L_both _ _) ml_L_120 st_L_both (by omega) (b_note (d := d - 1) (by omega) I.1 (nI j67) (nI j265) 0 0) rfl rfl (Nat.le_of_ble_eq_true rfl) dL_runs_270 (fun r9 h9 e9 => ?_) (fun E9 h9 e9 => nomatch e9.1)
          obtain ⟨e9, rfl⟩ := e9
          cases e9
          rcases q1 with q1 | ⟨c, c1, c2, q1⟩
          · rw [q1]
            refine wq_run [(.istore 8, 2), (.iload 8, 2)] (pc' := 277) (L' := [(8, .inl (.int (-2000000003))), (7, .inl (.int (nI j77))), (6, .inl (.int (nI j67))), (5, .inl (.int (nI j57))), (0, .inr (1, some 0)), (1, .inr (2, some 0)), (2, .inr (3, some 0)), (3, .inl (.int x)), (4, .inl (.int z))]) (st' := [.inl (.int (-2000000003))]) ⟨dL_runs_273, dL_runs_275, trivial⟩ rfl rfl ?_
            refine wl_ldc kc_L_23 dL_runs_277 ?_
            refine wl_icmp_eq (tgt := 295) dL_runs_279 (by decide) (fun _ => ?_) (fun h => absurd h (by decide))
            refine wq_run [(.iconst 1, 1)] (pc' := 296) (L' := [(8, .inl (.int (-2000000003))), (7, .inl (.int (nI j77))), (6, .inl (.int (nI j67))), (5, .inl (.int (nI j57))), (0, .inr (1, some 0)), (1, .inr (2, some 0)), (2, .inr (3, some 0)), (3, .inl (.int x)), (4, .inl (.int z))]) (st' := [.inl (.int 1)]) ⟨dL_runs_295, trivial⟩ rfl rfl ?_
            refine wl_goto (tgt := 300) dL_runs_296 (by decide) ?_
            exact wl_zret rfl rfl rfl dL_runs_300 ⟨rfl, _, _, rfl, q2⟩
          · rw [q1]
            refine wq_run [(.istore 8, 2), (.iload 8, 2)] (pc' := 277) (L' := [(8, .inl (.int (nI c))), (7, .inl (.int (nI j77))), (6, .inl (.int (nI j67))), (5, .inl (.int (nI j57))), (0, .inr (1, some 0)), (1, .inr (2, some 0)), (2, .inr (3, some 0)), (3, .inl (.int x)), (4, .inl (.int z))]) (st' := [.inl (.int (nI c))]) ⟨dL_runs_273, dL_runs_275, trivial⟩ rfl rfl ?_
            refine wl_ldc kc_L_23 dL_runs_277 ?_
            refine wl_icmp_eq (tgt := 295) dL_runs_279 (by decide) (fun hb279 => absurd ((c_eq (nI_toInt (by omega)) (by decide : (-2000000003 : Int32).toInt = -2000000003)).mp hb279) (by omega)) (fun _ => ?_)
            refine wq_run [(.iload 8, 2), (.iconst 1, 1)] (pc' := 285) (L' := [(8, .inl (.int (nI c))), (7, .inl (.int (nI j77))), (6, .inl (.int (nI j67))), (5, .inl (.int (nI j57))), (0, .inr (1, some 0)), (1, .inr (2, some 0)), (2, .inr (3, some 0)), (3, .inl (.int x)), (4, .inl (.int z))]) (st' := [.inl (.int 1), .inl (.int (nI c))]) ⟨dL_runs_282, dL_runs_284, trivial⟩ rfl rfl ?_
            refine wl_icmp_lt (tgt := 299) dL_runs_285 (by decide) (fun hb285 => absurd ((c_lt (nI_toInt (by omega)) (by decide : (1 : Int32).toInt = 1)).mp hb285) (by omega)) (fun _ => ?_)
            refine wq_run [(.iload 8, 2), (.bipush 30, 2)] (pc' := 292) (L' := [(8, .inl (.int (nI c))), (7, .inl (.int (nI j77))), (6, .inl (.int (nI j67))), (5, .inl (.int (nI j57))), (0, .inr (1, some 0)), (1, .inr (2, some 0)), (2, .inr (3, some 0)), (3, .inl (.int x)), (4, .inl (.int z))]) (st' := [.inl (.int 30), .inl (.int (nI c))]) ⟨dL_runs_288, dL_runs_290, trivial⟩ rfl rfl ?_
            refine wl_icmp_gt (tgt := 299) dL_runs_292 (by decide) (fun hb292 => absurd ((c_lt (by decide : (30 : Int32).toInt = 30) (nI_toInt (by omega))).mp hb292) (by omega)) (fun _ => ?_)
            refine wq_run [(.iconst 1, 1)] (pc' := 296) (L' := [(8, .inl (.int (nI c))), (7, .inl (.int (nI j77))), (6, .inl (.int (nI j67))), (5, .inl (.int (nI j57))), (0, .inr (1, some 0)), (1, .inr (2, some 0)), (2, .inr (3, some 0)), (3, .inl (.int x)), (4, .inl (.int z))]) (st' := [.inl (.int 1)]) ⟨dL_runs_295, trivial⟩ rfl rfl ?_
            refine wl_goto (tgt := 300) dL_runs_296 (by decide) ?_
            exact wl_zret rfl rfl rfl dL_runs_300 ⟨rfl, _, _, rfl, q2⟩
      · have h160 : ¬ ((5 : Int) ≤ ((j57 : Nat) : Int)) := fun z => h160 ((c_le (by decide : (5 : Int32).toInt = 5) (nI_toInt (by omega))).mpr z)
        refine wq_run [(.iload 4, 2), (.bipush 8, 2), (.ishr, 1), (.bipush 6, 2)] (pc' := 170) (L' := [(7, .inl (.int (nI j77))), (6, .inl (.int (nI j67))), (5, .inl (.int (nI j57))), (0, .inr (1, some 0)), (1, .inr (2, some 0)), (2, .inr (3, some 0)), (3, .inl (.int x)), (4, .inl (.int z))]) (st' := [.inl (.int 6), .inl (.int (z >>> (8 &&& 31)))]) ⟨dL_runs_163, dL_runs_165, dL_runs_167, dL_runs_168, trivial⟩ rfl rfl ?_
        obtain ⟨j170, j170l, j170k⟩ := some_ex (x := (z >>> (8 &&& 31))) (m := 6) (n := 6) rfl (by omega) (by omega)
        refine wl_static (M := M_L_runs) (uc := 60) (us := 1000) (bc := 0) (bs := 0) (As := [.inl (.int (z >>> (8 &&& 31))), .inl (.int 6)]) (rest := []) (ok_L_some _ _) ml_L_117 st_L_some (by omega) (j170k (d - 1)) rfl rfl (Nat.le_of_ble_eq_true rfl) dL_runs_170 (fun r9 h9 e9 => ?_) (fun E9 h9 e9 => nomatch e9.1)
        obtain ⟨e9, rfl⟩ := e9
        cases e9
        refine wl_if_ne (tgt := 180) dL_runs_173 (by decide) (fun h173 => ?_) (fun h173 => ?_)
        · have h173 : ¬ (((j170 : Nat) : Int) = (0 : Int)) := fun z => h173 ((c_eq (nI_toInt (by omega)) (by decide : (0 : Int32).toInt = 0)).mpr z)
          refine wq_run [(.iload 4, 2), (.bipush 9, 2), (.ishr, 1), (.sipush 130, 3)] (pc' := 188) (L' := [(7, .inl (.int (nI j77))), (6, .inl (.int (nI j67))), (5, .inl (.int (nI j57))), (0, .inr (1, some 0)), (1, .inr (2, some 0)), (2, .inr (3, some 0)), (3, .inl (.int x)), (4, .inl (.int z))]) (st' := [.inl (.int 130), .inl (.int (z >>> (9 &&& 31)))]) ⟨dL_runs_180, dL_runs_182, dL_runs_184, dL_runs_185, trivial⟩ rfl rfl ?_
          obtain ⟨j188, j188l, j188k⟩ := some_ex (x := (z >>> (9 &&& 31))) (m := 130) (n := 130) rfl (by omega) (by omega)
          refine wl_static (M := M_L_runs) (uc := 60) (us := 1000) (bc := 0) (bs := 0) (As := [.inl (.int (z >>> (9 &&& 31))), .inl (.int 130)]) (rest := []) (ok_L_some _ _) ml_L_117 st_L_some (by omega) (j188k (d - 1)) rfl rfl (Nat.le_of_ble_eq_true rfl) dL_runs_188 (fun r9 h9 e9 => ?_) (fun E9 h9 e9 => nomatch e9.1)
          obtain ⟨e9, rfl⟩ := e9
          cases e9
          refine wq_run [(.istore 8, 2), (.aload_n 0, 1), (.aload_n 1, 1), (.iconst 4, 1), (.iload 6, 2), (.iload 7, 2), (.iload 8, 2), (.iconst 0, 1)] (pc' := 203) (L' := [(8, .inl (.int (nI j188))), (7, .inl (.int (nI j77))), (6, .inl (.int (nI j67))), (5, .inl (.int (nI j57))), (0, .inr (1, some 0)), (1, .inr (2, some 0)), (2, .inr (3, some 0)), (3, .inl (.int x)), (4, .inl (.int z))]) (st' := [.inl (.int 0), .inl (.int (nI j188)), .inl (.int (nI j77)), .inl (.int (nI j67)), .inl (.int 4), .inr (2, some 0), .inr (1, some 0)]) ⟨dL_runs_191, dL_runs_193, dL_runs_194, dL_runs_195, dL_runs_196, dL_runs_198, dL_runs_200, dL_runs_202, trivial⟩ rfl rfl ?_
          obtain ⟨q1, q2, q4⟩ := iv_delay I (t := j67) (d := j77) (mi := (nI j188)) (by omega) (by omega) (by rw [nI_toInt (by omega)]; omega)
          refine wl_static (M := M_L_runs) (uc := 54) (us := 964) (bc := 6) (bs := 36) (As := [.inr (1, some 0), .inr (2, some 0), .inl (.int 4), .inl (.int (nI j67)), .inl (.int (nI j77)), .inl (.int (nI j188)), .inl (.int 0)]) (rest := []) (ok_L_both _ _) ml_L_120 st_L_both (by omega) (b_delay (d := d - 1) (by omega) I.1 (nI j67) (nI j77) (nI j188) 0) rfl rfl (Nat.le_of_ble_eq_true rfl) dL_runs_203 (fun r9 h9 e9 => ?_) (fun E9 h9 e9 => nomatch e9.1)
          obtain ⟨e9, rfl⟩ := e9
          cases e9
          refine wq_run [(.istore 9, 2), (.iload 9, 2), (.iconst (-1), 1)] (pc' := 211) (L' := [(9, .inl (.int (V_delay h (nI j67) (nI j77) (nI j188)))), (8, .inl (.int (nI j188))), (7, .inl (.int (nI j77))), (6, .inl (.int (nI j67))), (5, .inl (.int (nI j57))), (0, .inr (1, some 0)), (1, .inr (2, some 0)), (2, .inr (3, some 0)), (3, .inl (.int x)), (4, .inl (.int z))]) (st' := [.inl (.int (-1)), .inl (.int (V_delay h (nI j67) (nI j77) (nI j188)))]) ⟨dL_runs_206, dL_runs_208, dL_runs_210, trivial⟩ rfl rfl ?_
          refine wl_icmp_lt (tgt := 244) dL_runs_211 (by decide) (fun hb211 => absurd ((c_lt rfl (by decide : (-1 : Int32).toInt = -1)).mp hb211) (by omega)) (fun _ => ?_)
          refine wq_run [(.iload 9, 2), (.sipush 600, 3)] (pc' := 219) (L' := [(9, .inl (.int (V_delay h (nI j67) (nI j77) (nI j188)))), (8, .inl (.int (nI j188))), (7, .inl (.int (nI j77))), (6, .inl (.int (nI j67))), (5, .inl (.int (nI j57))), (0, .inr (1, some 0)), (1, .inr (2, some 0)), (2, .inr (3, some 0)), (3, .inl (.int x)), (4, .inl (.int z))]) (st' := [.inl (.int 600), .inl (.int (V_delay h (nI j67) (nI j77) (nI j188)))]) ⟨dL_runs_214, dL_runs_216, trivial⟩ rfl rfl ?_
          refine wl_icmp_gt (tgt := 244) dL_runs_219 (by decide) (fun hb219 => absurd ((c_lt (by decide : (600 : Int32).toInt = 600) rfl).mp hb219) (by omega)) (fun _ => ?_)
          refine wq_run [(.aload_n 0, 1), (.aload_n 1, 1), (.iconst 4, 1), (.iload 6, 2), (.iload 7, 2), (.iload 8, 2), (.iconst 0, 1)] (pc' := 232) (L' := [(9, .inl (.int (V_delay h (nI j67) (nI j77) (nI j188)))), (8, .inl (.int (nI j188))), (7, .inl (.int (nI j77))), (6, .inl (.int (nI j67))), (5, .inl (.int (nI j57))), (0, .inr (1, some 0)), (1, .inr (2, some 0)), (2, .inr (3, some 0)), (3, .inl (.int x)), (4, .inl (.int z))]) (st' := [.inl (.int 0), .inl (.int (nI j188)), .inl (.int (nI j77)), .inl (.int (nI j67)), .inl (.int 4), .inr (2, some 0), .inr (1, some 0)]) ⟨dL_runs_222, dL_runs_223, dL_runs_224, dL_runs_225, dL_runs_227, dL_runs_229, dL_runs_231, trivial⟩ rfl rfl ?_
          obtain ⟨r1, r2, r4⟩ := iv_delay q2 (t := j67) (d := j77) (mi := (nI j188)) (by rw [I.l11 q2]; omega) (by omega) (by rw [nI_toInt (by omega)]; omega)
          refine wl_static (M := M_L_runs) (uc := 48) (us := 928) (bc := 6) (bs := 36) (As := [.inr (1, some 0), .inr (2, some 0), .inl (.int 4), .inl (.int (nI j67)), .inl (.int (nI j77)), .inl (.int (nI j188)), .inl (.int 0)]) (rest := []) (ok_L_both _ _) ml_L_120 st_L_both (by omega) (b_delay (d := d - 1) (by omega) q2.1 (nI j67) (nI j77) (nI j188) 0) rfl rfl (Nat.le_of_ble_eq_true rfl) dL_runs_232 (fun r9 h9 e9 => ?_) (fun E9 h9 e9 => nomatch e9.1)
          obtain ⟨e9, rfl⟩ := e9
          cases e9
          rw [q4]
          refine wq_run [(.iload 8, 2)] (pc' := 237) (L' := [(9, .inl (.int (V_delay h (nI j67) (nI j77) (nI j188)))), (8, .inl (.int (nI j188))), (7, .inl (.int (nI j77))), (6, .inl (.int (nI j67))), (5, .inl (.int (nI j57))), (0, .inr (1, some 0)), (1, .inr (2, some 0)), (2, .inr (3, some 0)), (3, .inl (.int x)), (4, .inl (.int z))]) (st' := [.inl (.int (nI j188)), .inl (.int (nI j188))]) ⟨dL_runs_235, trivial⟩ rfl rfl ?_
          refine wl_icmp_ne (tgt := 244) dL_runs_237 (by decide) (fun hb237 => absurd ((c_eq (nI_toInt (by omega)) (nI_toInt (by omega))).mpr (by omega)) hb237) (fun _ => ?_)
          refine wq_run [(.iconst 1, 1)] (pc' := 241) (L' := [(9, .inl (.int (V_delay h (nI j67) (nI j77) (nI j188)))), (8, .inl (.int (nI j188))), (7, .inl (.int (nI j77))), (6, .inl (.int (nI j67))), (5, .inl (.int (nI j57))), (0, .inr (1, some 0)), (1, .inr (2, some 0)), (2, .inr (3, some 0)), (3, .inl (.int x)), (4, .inl (.int z))]) (st' := [.inl (.int 1)]) ⟨dL_runs_240, trivial⟩ rfl rfl ?_
          refine wl_goto (tgt := 245) dL_runs_241 (by decide) ?_
          exact wl_zret rfl rfl rfl dL_runs_245 ⟨rfl, _, _, rfl, r2⟩
        · have h173 : ((j170 : Nat) : Int) = (0 : Int) := (c_eq (nI_toInt (by omega)) (by decide : (0 : Int32).toInt = 0)).mp h173
          refine wq_run [(.iconst (-1), 1)] (pc' := 177) (L' := [(7, .inl (.int (nI j77))), (6, .inl (.int (nI j67))), (5, .inl (.int (nI j57))), (0, .inr (1, some 0)), (1, .inr (2, some 0)), (2, .inr (3, some 0)), (3, .inl (.int x)), (4, .inl (.int z))]) (st' := [.inl (.int (-1))]) ⟨dL_runs_176, trivial⟩ rfl rfl ?_
          refine wl_goto (tgt := 191) dL_runs_177 (by decide) ?_
          refine wq_run [(.istore 8, 2), (.aload_n 0, 1), (.aload_n 1, 1), (.iconst 4, 1), (.iload 6, 2), (.iload 7, 2), (.iload 8, 2), (.iconst 0, 1)] (pc' := 203) (L' := [(8, .inl (.int (-1))), (7, .inl (.int (nI j77))), (6, .inl (.int (nI j67))), (5, .inl (.int (nI j57))), (0, .inr (1, some 0)), (1, .inr (2, some 0)), (2, .inr (3, some 0)), (3, .inl (.int x)), (4, .inl (.int z))]) (st' := [.inl (.int 0), .inl (.int (-1)), .inl (.int (nI j77)), .inl (.int (nI j67)), .inl (.int 4), .inr (2, some 0), .inr (1, some 0)]) ⟨dL_runs_191, dL_runs_193, dL_runs_194, dL_runs_195, dL_runs_196, dL_runs_198, dL_runs_200, dL_runs_202, trivial⟩ rfl rfl ?_
          obtain ⟨q1, q2, q4⟩ := iv_delay I (t := j67) (d := j77) (mi := (-1)) (by omega) (by omega) (by decide)
          refine wl_static (M := M_L_runs) (uc := 54) (us := 964) (bc := 6) (bs := 36) (As := [.inr (1, some 0), .inr (2, some 0), .inl (.int 4), .inl (.int (nI j67)), .inl (.int (nI j77)), .inl (.int (-1)), .inl (.int 0)]) (rest := []) (ok_L_both _ _) ml_L_120 st_L_both (by omega) (b_delay (d := d - 1) (by omega) I.1 (nI j67) (nI j77) (-1) 0) rfl rfl (Nat.le_of_ble_eq_true rfl) dL_runs_203 (fun r9 h9 e9 => ?_) (fun E9 h9 e9 => nomatch e9.1)
          obtain ⟨e9, rfl⟩ := e9
          cases e9
          refine wq_run [(.istore 9, 2), (.iload 9, 2), (.iconst (-1), 1)] (pc' := 211) (L' := [(9, .inl (.int (V_delay h (nI j67) (nI j77) (-1)))), (8, .inl (.int (-1))), (7, .inl (.int (nI j77))), (6, .inl (.int (nI j67))), (5, .inl (.int (nI j57))), (0, .inr (1, some 0)), (1, .inr (2, some 0)), (2, .inr (3, some 0)), (3, .inl (.int x)), (4, .inl (.int z))]) (st' := [.inl (.int (-1)), .inl (.int (V_delay h (nI j67) (nI j77) (-1)))]) ⟨dL_runs_206, dL_runs_208, dL_runs_210, trivial⟩ rfl rfl ?_
          refine wl_icmp_lt (tgt := 244) dL_runs_211 (by decide) (fun hb211 => absurd ((c_lt rfl (by decide : (-1 : Int32).toInt = -1)).mp hb211) (by omega)) (fun _ => ?_)
          refine wq_run [(.iload 9, 2), (.sipush 600, 3)] (pc' := 219) (L' := [(9, .inl (.int (V_delay h (nI j67) (nI j77) (-1)))), (8, .inl (.int (-1))), (7, .inl (.int (nI j77))), (6, .inl (.int (nI j67))), (5, .inl (.int (nI j57))), (0, .inr (1, some 0)), (1, .inr (2, some 0)), (2, .inr (3, some 0)), (3, .inl (.int x)), (4, .inl (.int z))]) (st' := [.inl (.int 600), .inl (.int (V_delay h (nI j67) (nI j77) (-1)))]) ⟨dL_runs_214, dL_runs_216, trivial⟩ rfl rfl ?_
          refine wl_icmp_gt (tgt := 244) dL_runs_219 (by decide) (fun hb219 => absurd ((c_lt (by decide : (600 : Int32).toInt = 600) rfl).mp hb219) (by omega)) (fun _ => ?_)
          refine wq_run [(.aload_n 0, 1), (.aload_n 1, 1), (.iconst 4, 1), (.iload 6, 2), (.iload 7, 2), (.iload 8, 2), (.iconst 0, 1)] (pc' := 232) (L' := [(9, .inl (.int (V_delay h (nI j67) (nI j77) (-1)))), (8, .inl (.int (-1))), (7, .inl (.int (nI j77))), (6, .inl (.int (nI j67))), (5, .inl (.int (nI j57))), (0, .inr (1, some 0)), (1, .inr (2, some 0)), (2, .inr (3, some 0)), (3, .inl (.int x)), (4, .inl (.int z))]) (st' := [.inl (.int 0), .inl (.int (-1)), .inl (.int (nI j77)), .inl (.int (nI j67)), .inl (.int 4), .inr (2, some 0), .inr (1, some 0)]) ⟨dL_runs_222, dL_runs_223, dL_runs_224, dL_runs_225, dL_runs_227, dL_runs_229, dL_runs_231, trivial⟩ rfl rfl ?_
          obtain ⟨r1, r2, r4⟩ := iv_delay q2 (t := j67) (d := j77) (mi := (-1)) (by rw [I.l11 q2]; omega) (by omega) (by decide)
          refine wl_static (M := M_L_runs) (uc := 48) (us := 928) (bc := 6) (bs := 36) (As := [.inr (1, some 0), .inr (2, some 0), .inl (.int 4), .inl (.int (nI j67)), .inl (.int (nI j77)), .inl (.int (-1)), .inl (.int 0)]) (rest := []) (ok_L_both _ _) ml_L_120 st_L_both (by omega) (b_delay (d := d - 1) (by omega) q2.1 (nI j67) (nI j77) (-1) 0) rfl rfl (Nat.le_of_ble_eq_true rfl) dL_runs_232 (fun r9 h9 e9 => ?_) (fun E9 h9 e9 => nomatch e9.1)
          obtain ⟨e9, rfl⟩ := e9
          cases e9
          rw [q4]
          refine wq_run [(.iload 8, 2)] (pc' := 237) (L' := [(9, .inl (.int (V_delay h (nI j67) (nI j77) (-1)))), (8, .inl (.int (-1))), (7, .inl (.int (nI j77))), (6, .inl (.int (nI j67))), (5, .inl (.int (nI j57))), (0, .inr (1, some 0)), (1, .inr (2, some 0)), (2, .inr (3, some 0)), (3, .inl (.int x)), (4, .inl (.int z))]) (st' := [.inl (.int (-1)), .inl (.int (-1))]) ⟨dL_runs_235, trivial⟩ rfl rfl ?_
          refine wl_icmp_ne (tgt := 244) dL_runs_237 (by decide) (fun h => absurd h (by decide)) (fun _ => ?_)
          refine wq_run [(.iconst 1, 1)] (pc' := 241) (L' := [(9, .inl (.int (V_delay h (nI j67) (nI j77) (-1)))), (8, .inl (.int (-1))), (7, .inl (.int (nI j77))), (6, .inl (.int (nI j67))), (5, .inl (.int (nI j57))), (0, .inr (1, some 0)), (1, .inr (2, some 0)), (2, .inr (3, some 0)), (3, .inl (.int x)), (4, .inl (.int z))]) (st' := [.inl (.int 1)]) ⟨dL_runs_240, trivial⟩ rfl rfl ?_
          refine wl_goto (tgt := 245) dL_runs_241 (by decide) ?_
          exact wl_zret rfl rfl rfl dL_runs_245 ⟨rfl, _, _, rfl, r2⟩
    · have h85 : ¬ ((2 : Int) ≤ ((j57 : Nat) : Int)) := fun z => h85 ((c_le (by decide : (2 : Int32).toInt = 2) (nI_toInt (by omega))).mpr z)
      refine wq_run [(.iload 4, 2), (.bipush 8, 2), (.ishr, 1), (.iconst 3, 1)] (pc' := 94) (L' := [(7, .inl (.int (nI j77))), (6, .inl (.int (nI j67))), (5, .inl (.int (nI j57))), (0, .inr (1, some 0)), (1, .inr (2, some 0)), (2, .inr (3, some 0)), (3, .inl (.int x)), (4, .inl (.int z))]) (st' := [.inl (.int 3), .inl (.int (z >>> (8 &&& 31)))]) ⟨dL_runs_88, dL_runs_90, dL_runs_92, dL_runs_93, trivial⟩ rfl rfl ?_
      obtain ⟨j94, j94l, j94k⟩ := some_ex (x := (z >>> (8 &&& 31))) (m := 3) (n := 3) rfl (by omega) (by omega)
      refine wl_static (M := M_L_runs) (uc := 60) (us := 1000) (bc := 0) (bs := 0) (As := [.inl (.int (z >>> (8 &&& 31))), .inl (.int 3)]) (rest := []) (ok_L_some _ _) ml_L_117 st_L_some (by omega) (j94k (d - 1)) rfl rfl (Nat.le_of_ble_eq_true rfl) dL_runs_94 (fun r9 h9 e9 => ?_) (fun E9 h9 e9 => nomatch e9.1)
      obtain ⟨e9, rfl⟩ := e9
      cases e9
      refine wl_if_le (tgt := 104) dL_runs_97 (by decide) (fun h97 => ?_) (fun h97 => ?_)
      · have h97 : ((j94 : Nat) : Int) ≤ (0 : Int) := (c_le (nI_toInt (by omega)) (by decide : (0 : Int32).toInt = 0)).mp h97
        refine wq_run [(.iconst 0, 1), (.istore 8, 2), (.aload_n 0, 1), (.aload_n 1, 1), (.iconst 3, 1), (.iload 6, 2), (.iload 7, 2), (.iload 8, 2), (.iconst 0, 1)] (pc' := 117) (L' := [(8, .inl (.int 0)), (7, .inl (.int (nI j77))), (6, .inl (.int (nI j67))), (5, .inl (.int (nI j57))), (0, .inr (1, some 0)), (1, .inr (2, some 0)), (2, .inr (3, some 0)), (3, .inl (.int x)), (4, .inl (.int z))]) (st' := [.inl (.int 0), .inl (.int 0), .inl (.int (nI j77)), .inl (.int (nI j67)), .inl (.int 3), .inr (2, some 0), .inr (1, some 0)]) ⟨dL_runs_104, dL_runs_105, dL_runs_107, dL_runs_108, dL_runs_109, dL_runs_110, dL_runs_112, dL_runs_114, dL_runs_116, trivial⟩ rfl rfl ?_
        obtain ⟨q1, q2, q3, q4⟩ := iv_runs I (t := j67) (d := j77) (v := 0) (by omega) (by omega) (.inl rfl)
        refine wl_static (M := M_L_runs) (uc := 56) (us := 976) (bc := 4) (bs := 24) (As := [.inr (1, some 0), .inr (2, some 0), .inl (.int 3), .inl (.int (nI j67)), .inl (.int (nI j77)), .inl (.int 0), .inl (.int 0)]) (rest := []) (ok_L_both _ _) ml_L_120 st_L_both (by omega) (b_runs (d := d - 1) (by omega) I.1 (nI j67) (nI j77) 0 0) rfl rfl (Nat.le_of_ble_eq_true rfl) dL_runs_117 (fun r9 h9 e9 => ?_) (fun E9 h9 e9 => nomatch e9.1)
        obtain ⟨e9, rfl⟩ := e9
        cases e9
        rcases q1 with q1 | q1
        · rw [q1]
          refine wq_run [(.istore 9, 2), (.iload 9, 2)] (pc' := 124) (L' := [(9, .inl (.int 0)), (8, .inl (.int 0)), (7, .inl (.int (nI j77))), (6, .inl (.int (nI j67))), (5, .inl (.int (nI j57))), (0, .inr (1, some 0)), (1, .inr (2, some 0)), (2, .inr (3, some 0)), (3, .inl (.int x)), (4, .inl (.int z))]) (st' := [.inl (.int 0)]) ⟨dL_runs_120, dL_runs_122, trivial⟩ rfl rfl ?_
          refine wl_if_eq (tgt := 133) dL_runs_124 (by decide) (fun _ => ?_) (fun h => absurd h (by decide))
          refine wq_run [(.aload_n 0, 1), (.aload_n 1, 1), (.iconst 3, 1), (.iload 6, 2), (.iload 7, 2), (.iload 8, 2), (.iconst 0, 1)] (pc' := 143) (L' := [(9, .inl (.int 0)), (8, .inl (.int 0)), (7, .inl (.int (nI j77))), (6, .inl (.int (nI j67))), (5, .inl (.int (nI j57))), (0, .inr (1, some 0)), (1, .inr (2, some 0)), (2, .inr (3, some 0)), (3, .inl (.int x)), (4, .inl (.int z))]) (st' := [.inl (.int 0), .inl (.int 0), .inl (.int (nI j77)), .inl (.int (nI j67)), .inl (.int 3), .inr (2, some 0), .inr (1, some 0)]) ⟨dL_runs_133, dL_runs_134, dL_runs_135, dL_runs_136, dL_runs_138, dL_runs_140, dL_runs_142, trivial⟩ rfl rfl ?_
          obtain ⟨r1, r2, r3, r4⟩ := iv_runs q2 (t := j67) (d := j77) (v := 0) (by rw [q3]; omega) (by omega) (.inl rfl)
          refine wl_static (M := M_L_runs) (uc := 52) (us := 952) (bc := 4) (bs := 24) (As := [.inr (1, some 0), .inr (2, some 0), .inl (.int 3), .inl (.int (nI j67)), .inl (.int (nI j77)), .inl (.int 0), .inl (.int 0)]) (rest := []) (ok_L_both _ _) ml_L_120 st_L_both (by omega) (b_runs (d := d - 1) (by omega) q2.1 (nI j67) (nI j77) 0 0) rfl rfl (Nat.le_of_ble_eq_true rfl) dL_runs_143 (fun r9 h9 e9 => ?_) (fun E9 h9 e9 => nomatch e9.1)
          obtain ⟨e9, rfl⟩ := e9
          cases e9
          rw [q4]
          refine wq_run [(.iload 8, 2)] (pc' := 148) (L' := [(9, .inl (.int 0)), (8, .inl (.int 0)), (7, .inl (.int (nI j77))), (6, .inl (.int (nI j67))), (5, .inl (.int (nI j57))), (0, .inr (1, some 0)), (1, .inr (2, some 0)), (2, .inr (3, some 0)), (3, .inl (.int x)), (4, .inl (.int z))]) (st' := [.inl (.int 0), .inl (.int 0)]) ⟨dL_runs_146, trivial⟩ rfl rfl ?_
          refine wl_icmp_ne (tgt := 155) dL_runs_148 (by decide) (fun h => absurd h (by decide)) (fun _ => ?_)
          refine wq_run [(.iconst 1, 1)] (pc' := 152) (L' := [(9, .inl (.int 0)), (8, .inl (.int 0)), (7, .inl (.int (nI j77))), (6, .inl (.int (nI j67))), (5, .inl (.int (nI j57))), (0, .inr (1, some 0)), (1, .inr (2, some 0)), (2, .inr (3, some 0)), (3, .inl (.int x)), (4, .inl (.int z))]) (st' := [.inl (.int 1)]) ⟨dL_runs_151, trivial⟩ rfl rfl ?_
          refine wl_goto (tgt := 156) dL_runs_152 (by decide) ?_
          exact wl_zret rfl rfl rfl dL_runs_156 ⟨rfl, _, _, rfl, r2⟩
        · rw [q1]
          refine wq_run [(.istore 9, 2), (.iload 9, 2)] (pc' := 124) (L' := [(9, .inl (.int 1)), (8, .inl (.int 0)), (7, .inl (.int (nI j77))), (6, .inl (.int (nI j67))), (5, .inl (.int (nI j57))), (0, .inr (1, some 0)), (1, .inr (2, some 0)), (2, .inr (3, some 0)), (3, .inl (.int x)), (4, .inl (.int z))]) (st' := [.inl (.int 1)]) ⟨dL_runs_120, dL_runs_122, trivial⟩ rfl rfl ?_
          refine wl_if_eq (tgt := 133) dL_runs_124 (by decide) (fun h => absurd h (by decide)) (fun _ => ?_)
          refine wq_run [(.iload 9, 2), (.iconst 1, 1)] (pc' := 130) (L' := [(9, .inl (.int 1)), (8, .inl (.int 0)), (7, .inl (.int (nI j77))), (6, .inl (.int (nI j67))), (5, .inl (.int (nI j57))), (0, .inr (1, some 0)), (1, .inr (2, some 0)), (2, .inr (3, some 0)), (3, .inl (.int x)), (4, .inl (.int z))]) (st' := [.inl (.int 1), .inl (.int 1)]) ⟨dL_runs_127, dL_runs_129, trivial⟩ rfl rfl ?_
          refine wl_icmp_ne (tgt := 155) dL_runs_130 (by decide) (fun h => absurd h (by decide)) (fun _ => ?_)
          refine wq_run [(.aload_n 0, 1), (.aload_n 1, 1), (.iconst 3, 1), (.iload 6, 2), (.iload 7, 2), (.iload 8, 2), (.iconst 0, 1)] (pc' := 143) (L' := [(9, .inl (.int 1)), (8, .inl (.int 0)), (7, .inl (.int (nI j77))), (6, .inl (.int (nI j67))), (5, .inl (.int (nI j57))), (0, .inr (1, some 0)), (1, .inr (2, some 0)), (2, .inr (3, some 0)), (3, .inl (.int x)), (4, .inl (.int z))]) (st' := [.inl (.int 0), .inl (.int 0), .inl (.int (nI j77)), .inl (.int (nI j67)), .inl (.int 3), .inr (2, some 0), .inr (1, some 0)]) ⟨dL_runs_133, dL_runs_134, dL_runs_135, dL_runs_136, dL_runs_138, dL_runs_140, dL_runs_142, trivial⟩ rfl rfl ?_
          obtain ⟨r1, r2, r3, r4⟩ := iv_runs q2 (t := j67) (d := j77) (v := 0) (by rw [q3]; omega) (by omega) (.inl rfl)
          refine wl_static (M := M_L_runs) (uc := 52) (us := 952) (bc := 4) (bs := 24) (As := [.inr (1, some 0), .inr (2, some 0), .inl (.int 3), .inl (.int (nI j67)), .inl (.int (nI j77)), .inl (.int 0), .inl (.int 0)]) (rest := []) (ok_L_both _ _) ml_L_120 st_L_both (by omega) (b_runs (d := d - 1) (by omega) q2.1 (nI j67) (nI j77) 0 0) rfl rfl (Nat.le_of_ble_eq_true rfl) dL_runs_143 (fun r9 h9 e9 => ?_) (fun E9 h9 e9 => nomatch e9.1)
          obtain ⟨e9, rfl⟩ := e9
          cases e9
          rw [q4]
          refine wq_run [(.iload 8, 2)] (pc' := 148) (L' := [(9, .inl (.int 1)), (8, .inl (.int 0)), (7, .inl (.int (nI j77))), (6, .inl (.int (nI j67))), (5, .inl (.int (nI j57))), (0, .inr (1, some 0)), (1, .inr (2, some 0)), (2, .inr (3, some 0)), (3, .inl (.int x)), (4, .inl (.int z))]) (st' := [.inl (.int 0), .inl (.int 0)]) ⟨dL_runs_146, trivial⟩ rfl rfl ?_
          refine wl_icmp_ne (tgt := 155) dL_runs_148 (by decide) (fun h => absurd h (by decide)) (fun _ => ?_)
          refine wq_run [(.iconst 1, 1)] (pc' := 152) (L' := [(9, .inl (.int 1)), (8, .inl (.int 0)), (7, .inl (.int (nI j77))), (6, .inl (.int (nI j67))), (5, .inl (.int (nI j57))), (0, .inr (1, some 0)), (1, .inr (2, some 0)), (2, .inr (3, some 0)), (3, .inl (.int x)), (4, .inl (.int z))]) (st' := [.inl (.int 1)]) ⟨dL_runs_151, trivial⟩ rfl rfl ?_
          refine wl_goto (tgt := 156) dL_runs_152 (by decide) ?_
          exact wl_zret rfl rfl rfl dL_runs_156 ⟨rfl, _, _, rfl, r2⟩
      · have h97 : ¬ (((j94 : Nat) : Int) ≤ (0 : Int)) := fun z => h97 ((c_le (nI_toInt (by omega)) (by decide : (0 : Int32).toInt = 0)).mpr z)
        refine wq_run [(.iconst 1, 1)] (pc' := 101) (L' := [(7, .inl (.int (nI j77))), (6, .inl (.int (nI j67))), (5, .inl (.int (nI j57))), (0, .inr (1, some 0)), (1, .inr (2, some 0)), (2, .inr (3, some 0)), (3, .inl (.int x)), (4, .inl (.int z))]) (st' := [.inl (.int 1)]) ⟨dL_runs_100, trivial⟩ rfl rfl ?_
        refine wl_goto (tgt := 105) dL_runs_101 (by decide) ?_
        refine wq_run [(.istore 8, 2), (.aload_n 0, 1), (.aload_n 1, 1), (.iconst 3, 1), (.iload 6, 2), (.iload 7, 2), (.iload 8, 2), (.iconst 0, 1)] (pc' := 117) (L' := [(8, .inl (.int 1)), (7, .inl (.int (nI j77))), (6, .inl (.int (nI j67))), (5, .inl (.int (nI j57))), (0, .inr (1, some 0)), (1, .inr (2, some 0)), (2, .inr (3, some 0)), (3, .inl (.int x)), (4, .inl (.int z))]) (st' := [.inl (.int 0), .inl (.int 1), .inl (.int (nI j77)), .inl (.int (nI j67)), .inl (.int 3), .inr (2, some 0), .inr (1, some 0)]) ⟨dL_runs_105, dL_runs_107, dL_runs_108, dL_runs_109, dL_runs_110, dL_runs_112, dL_runs_114, dL_runs_116, trivial⟩ rfl rfl ?_
        obtain ⟨q1, q2, q3, q4⟩ := iv_runs I (t := j67) (d := j77) (v := 1) (by omega) (by omega) (.inr rfl)
        refine wl_static (M := M_L_runs) (uc := 56) (us := 976) (bc := 4) (bs := 24) (As := [.inr (1, some 0), .inr (2, some 0), .inl (.int 3), .inl (.int (nI j67)), .inl (.int (nI j77)), .inl (.int 1), .inl (.int 0)]) (rest := []) (ok_L_both _ _) ml_L_120 st_L_both (by omega) (b_runs (d := d - 1) (by omega) I.1 (nI j67) (nI j77) 1 0) rfl rfl (Nat.le_of_ble_eq_true rfl) dL_runs_117 (fun r9 h9 e9 => ?_) (fun E9 h9 e9 => nomatch e9.1)
        obtain ⟨e9, rfl⟩ := e9
        cases e9
        rcases q1 with q1 | q1
        · rw [q1]
          refine wq_run [(.istore 9, 2), (.iload 9, 2)] (pc' := 124) (L' := [(9, .inl (.int 0)), (8, .inl (.int 1)), (7, .inl (.int (nI j77))), (6, .inl (.int (nI j67))), (5, .inl (.int (nI j57))), (0, .inr (1, some 0)), (1, .inr (2, some 0)), (2, .inr (3, some 0)), (3, .inl (.int x)), (4, .inl (.int z))]) (st' := [.inl (.int 0)]) ⟨dL_runs_120, dL_runs_122, trivial⟩ rfl rfl ?_
          refine wl_if_eq (tgt := 133) dL_runs_124 (by decide) (fun _ => ?_) (fun h => absurd h (by decide))
          refine wq_run [(.aload_n 0, 1), (.aload_n 1, 1), (.iconst 3, 1), (.iload 6, 2), (.iload 7, 2), (.iload 8, 2), (.iconst 0, 1)] (pc' := 143) (L' := [(9, .inl (.int 0)), (8, .inl (.int 1)), (7, .inl (.int (nI j77))), (6, .inl (.int (nI j67))), (5, .inl (.int (nI j57))), (0, .inr (1, some 0)), (1, .inr (2, some 0)), (2, .inr (3, some 0)), (3, .inl (.int x)), (4, .inl (.int z))]) (st' := [.inl (.int 0), .inl (.int 1), .inl (.int (nI j77)), .inl (.int (nI j67)), .inl (.int 3), .inr (2, some 0), .inr (1, some 0)]) ⟨dL_runs_133, dL_runs_134, dL_runs_135, dL_runs_136, dL_runs_138, dL_runs_140, dL_runs_142, trivial⟩ rfl rfl ?_
          obtain ⟨r1, r2, r3, r4⟩ := iv_runs q2 (t := j67) (d := j77) (v := 1) (by rw [q3]; omega) (by omega) (.inr rfl)
          refine wl_static (M := M_L_runs) (uc := 52) (us := 952) (bc := 4) (bs := 24) (As := [.inr (1, some 0), .inr (2, some 0), .inl (.int 3), .inl (.int (nI j67)), .inl (.int (nI j77)), .inl (.int 1), .inl (.int 0)]) (rest := []) (ok_L_both _ _) ml_L_120 st_L_both (by omega) (b_runs (d := d - 1) (by omega) q2.1 (nI j67) (nI j77) 1 0) rfl rfl (Nat.le_of_ble_eq_true rfl) dL_runs_143 (fun r9 h9 e9 => ?_) (fun E9 h9 e9 => nomatch e9.1)
          obtain ⟨e9, rfl⟩ := e9
          cases e9
          rw [q4]
          refine wq_run [(.iload 8, 2)] (pc' := 148) (L' := [(9, .inl (.int 0)), (8, .inl (.int 1)), (7, .inl (.int (nI j77))), (6, .inl (.int (nI j67))), (5, .inl (.int (nI j57))), (0, .inr (1, some 0)), (1, .inr (2, some 0)), (2, .inr (3, some 0)), (3, .inl (.int x)), (4, .inl (.int z))]) (st' := [.inl (.int 1), .inl (.int 1)]) ⟨dL_runs_146, trivial⟩ rfl rfl ?_
          refine wl_icmp_ne (tgt := 155) dL_runs_148 (by decide) (fun h => absurd h (by decide)) (fun _ => ?_)
          refine wq_run [(.iconst 1, 1)] (pc' := 152) (L' := [(9, .inl (.int 0)), (8, .inl (.int 1)), (7, .inl (.int (nI j77))), (6, .inl (.int (nI j67))), (5, .inl (.int (nI j57))), (0, .inr (1, some 0)), (1, .inr (2, some 0)), (2, .inr (3, some 0)), (3, .inl (.int x)), (4, .inl (.int z))]) (st' := [.inl (.int 1)]) ⟨dL_runs_151, trivial⟩ rfl rfl ?_
          refine wl_goto (tgt := 156) dL_runs_152 (by decide) ?_
          exact wl_zret rfl rfl rfl dL_runs_156 ⟨rfl, _, _, rfl, r2⟩
        · rw [q1]
          refine wq_run [(.istore 9, 2), (.iload 9, 2)] (pc' := 124) (L' := [(9, .inl (.int 1)), (8, .inl (.int 1)), (7, .inl (.int (nI j77))), (6, .inl (.int (nI j67))), (5, .inl (.int (nI j57))), (0, .inr (1, some 0)), (1, .inr (2, some 0)), (2, .inr (3, some 0)), (3, .inl (.int x)), (4, .inl (.int z))]) (st' := [.inl (.int 1)]) ⟨dL_runs_120, dL_runs_122, trivial⟩ rfl rfl ?_
          refine wl_if_eq (tgt := 133) dL_runs_124 (by decide) (fun h => absurd h (by decide)) (fun _ => ?_)
          refine wq_run [(.iload 9, 2), (.iconst 1, 1)] (pc' := 130) (L' := [(9, .inl (.int 1)), (8, .inl (.int 1)), (7, .inl (.int (nI j77))), (6, .inl (.int (nI j67))), (5, .inl (.int (nI j57))), (0, .inr (1, some 0)), (1, .inr (2, some 0)), (2, .inr (3, some 0)), (3, .inl (.int x)), (4, .inl (.int z))]) (st' := [.inl (.int 1), .inl (.int 1)]) ⟨dL_runs_127, dL_runs_129, trivial⟩ rfl rfl ?_
          refine wl_icmp_ne (tgt := 155) dL_runs_130 (by decide) (fun h => absurd h (by decide)) (fun _ => ?_)
          refine wq_run [(.aload_n 0, 1), (.aload_n 1, 1), (.iconst 3, 1), (.iload 6, 2), (.iload 7, 2), (.iload 8, 2), (.iconst 0, 1)] (pc' := 143) (L' := [(9, .inl (.int 1)), (8, .inl (.int 1)), (7, .inl (.int (nI j77))), (6, .inl (.int (nI j67))), (5, .inl (.int (nI j57))), (0, .inr (1, some 0)), (1, .inr (2, some 0)), (2, .inr (3, some 0)), (3, .inl (.int x)), (4, .inl (.int z))]) (st' := [.inl (.int 0), .inl (.int 1), .inl (.int (nI j77)), .inl (.int (nI j67)), .inl (.int 3), .inr (2, some 0), .inr (1, some 0)]) ⟨dL_runs_133, dL_runs_134, dL_runs_135, dL_runs_136, dL_runs_138, dL_runs_140, dL_runs_142, trivial⟩ rfl rfl ?_
          obtain ⟨r1, r2, r3, r4⟩ := iv_runs q2 (t := j67) (d := j77) (v := 1) (by rw [q3]; omega) (by omega) (.inr rfl)
          refine wl_static (M := M_L_runs) (uc := 52) (us := 952) (bc := 4) (bs := 24) (As := [.inr (1, some 0), .inr (2, some 0), .inl (.int 3), .inl (.int (nI j67)), .inl (.int (nI j77)), .inl (.int 1), .inl (.int 0)]) (rest := []) (ok_L_both _ _) ml_L_120 st_L_both (by omega) (b_runs (d := d - 1) (by omega) q2.1 (nI j67) (nI j77) 1 0) rfl rfl (Nat.le_of_ble_eq_true rfl) dL_runs_143 (fun r9 h9 e9 => ?_) (fun E9 h9 e9 => nomatch e9.1)
          obtain ⟨e9, rfl⟩ := e9
          cases e9
          rw [q4]
          refine wq_run [(.iload 8, 2)] (pc' := 148) (L' := [(9, .inl (.int 1)), (8, .inl (.int 1)), (7, .inl (.int (nI j77))), (6, .inl (.int (nI j67))), (5, .inl (.int (nI j57))), (0, .inr (1, some 0)), (1, .inr (2, some 0)), (2, .inr (3, some 0)), (3, .inl (.int x)), (4, .inl (.int z))]) (st' := [.inl (.int 1), .inl (.int 1)]) ⟨dL_runs_146, trivial⟩ rfl rfl ?_
          refine wl_icmp_ne (tgt := 155) dL_runs_148 (by decide) (fun h => absurd h (by decide)) (fun _ => ?_)
          refine wq_run [(.iconst 1, 1)] (pc' := 152) (L' := [(9, .inl (.int 1)), (8, .inl (.int 1)), (7, .inl (.int (nI j77))), (6, .inl (.int (nI j67))), (5, .inl (.int (nI j57))), (0, .inr (1, some 0)), (1, .inr (2, some 0)), (2, .inr (3, some 0)), (3, .inl (.int x)), (4, .inl (.int z))]) (st' := [.inl (.int 1)]) ⟨dL_runs_151, trivial⟩ rfl rfl ?_
          refine wl_goto (tgt := 156) dL_runs_152 (by decide) ?_
          exact wl_zret rfl rfl rfl dL_runs_156 ⟨rfl, _, _, rfl, r2⟩
  · have h3 : ((xLS h 11 : Nat) : Int) = (0 : Int) := (c_eq (nI_toInt (by omega)) (by decide : (0 : Int32).toInt = 0)).mp h3
    refine wq_run [(.aload_n 0, 1), (.iconst 3, 1), (.iconst 0, 1), (.iconst 0, 1), (.iconst 0, 1), (.iconst 0, 1)] (pc' := 12) (L' := [(0, .inr (1, some 0)), (1, .inr (2, some 0)), (2, .inr (3, some 0)), (3, .inl (.int x)), (4, .inl (.int z))]) (st' := [.inl (.int 0), .inl (.int 0), .inl (.int 0), .inl (.int 0), .inl (.int 3), .inr (1, some 0)]) ⟨dL_runs_6, dL_runs_7, dL_runs_8, dL_runs_9, dL_runs_10, dL_runs_11, trivial⟩ rfl rfl ?_
    refine wl_staticH (M := M_L_runs) (uc := 58) (us := 988) (bc := 2) (bs := 12) (As := [.inr (1, some 0), .inl (.int 3), .inl (.int 0), .inl (.int 0), .inl (.int 0), .inl (.int 0)]) (rest := []) okH_call.1 okH_call.2.1 okH_call.2.2.1 okH_call.2.2.2.1 okH_call.2.2.2.2.1 okH_call.2.2.2.2.2 ml_L_113 st_L_call (by omega) (a_runs (d := d - 1) (by omega) I.1 0 0 0 0 (rf_runs 0 0 0 (no_T (k := 0) I.W (by omega) (by omega))).2) rfl rfl (Nat.le_of_ble_eq_true rfl) dL_runs_12 (fun r9 h9 e9 => ?_) (fun E9 h9 e9 => nomatch e9.1)
    obtain ⟨e9, rfl⟩ := e9
    cases e9
    rw [(rf_runs 0 0 0 (no_T (k := 0) I.W (by omega) (by omega))).1]
    refine wl_ldc kc_L_17 dL_runs_15 ?_
    refine wl_icmp_ne (tgt := 52) dL_runs_17 (by decide) (fun h => absurd h (by decide)) (fun _ => ?_)
    refine wq_run [(.aload_n 0, 1), (.iconst 4, 1), (.iconst 0, 1), (.iconst 0, 1), (.iconst 0, 1), (.iconst 0, 1)] (pc' := 26) (L' := [(0, .inr (1, some 0)), (1, .inr (2, some 0)), (2, .inr (3, some 0)), (3, .inl (.int x)), (4, .inl (.int z))]) (st' := [.inl (.int 0), .inl (.int 0), .inl (.int 0), .inl (.int 0), .inl (.int 4), .inr (1, some 0)]) ⟨dL_runs_20, dL_runs_21, dL_runs_22, dL_runs_23, dL_runs_24, dL_runs_25, trivial⟩ rfl rfl ?_
    refine wl_staticH (M := M_L_runs) (uc := 55) (us := 970) (bc := 3) (bs := 18) (As := [.inr (1, some 0), .inl (.int 4), .inl (.int 0), .inl (.int 0), .inl (.int 0), .inl (.int 0)]) (rest := []) okH_call.1 okH_call.2.1 okH_call.2.2.1 okH_call.2.2.2.1 okH_call.2.2.2.2.1 okH_call.2.2.2.2.2 ml_L_113 st_L_call (by omega) (a_delay (d := d - 1) (by omega) I.1 0 0 0 0 (rf_delay 0 0 0 (no_T (k := 0) I.W (by omega) (by omega))).2) rfl rfl (Nat.le_of_ble_eq_true rfl) dL_runs_26 (fun r9 h9 e9 => ?_) (fun E9 h9 e9 => nomatch e9.1)
    obtain ⟨e9, rfl⟩ := e9
    cases e9
    rw [(rf_delay 0 0 0 (no_T (k := 0) I.W (by omega) (by omega))).1]
    refine wl_ldc kc_L_17 dL_runs_29 ?_
    refine wl_icmp_ne (tgt := 52) dL_runs_31 (by decide) (fun h => absurd h (by decide)) (fun _ => ?_)
    refine wq_run [(.aload_n 0, 1), (.iconst 5, 1), (.iconst 0, 1), (.iconst 0, 1), (.iconst 0, 1), (.iconst 0, 1)] (pc' := 40) (L' := [(0, .inr (1, some 0)), (1, .inr (2, some 0)), (2, .inr (3, some 0)), (3, .inl (.int x)), (4, .inl (.int z))]) (st' := [.inl (.int 0), .inl (.int 0), .inl (.int 0), .inl (.int 0), .inl (.int 5), .inr (1, some 0)]) ⟨dL_runs_34, dL_runs_35, dL_runs_36, dL_runs_37, dL_runs_38, dL_runs_39, trivial⟩ rfl rfl ?_
    refine wl_staticH (M := M_L_runs) (uc := 52) (us := 952) (bc := 3) (bs := 18) (As := [.inr (1, some 0), .inl (.int 5), .inl (.int 0), .inl (.int 0), .inl (.int 0), .inl (.int 0)]) (rest := []) okH_call.1 okH_call.2.1 okH_call.2.2.1 okH_call.2.2.2.1 okH_call.2.2.2.2.1 okH_call.2.2.2.2.2 ml_L_113 st_L_call (by omega) (a_note (d := d - 1) (by omega) I.1 0 0 0 0 (rf_note 0 0 (no_T (k := 0) I.W (by omega) (by omega))).2) rfl rfl (Nat.le_of_ble_eq_true rfl) dL_runs_40 (fun r9 h9 e9 => ?_) (fun E9 h9 e9 => nomatch e9.1)
    obtain ⟨e9, rfl⟩ := e9
    cases e9
    rw [(rf_note 0 0 (no_T (k := 0) I.W (by omega) (by omega))).1]
    refine wl_ldc kc_L_17 dL_runs_43 ?_
    refine wl_icmp_ne (tgt := 52) dL_runs_45 (by decide) (fun h => absurd h (by decide)) (fun _ => ?_)
    refine wq_run [(.iconst 1, 1)] (pc' := 49) (L' := [(0, .inr (1, some 0)), (1, .inr (2, some 0)), (2, .inr (3, some 0)), (3, .inl (.int x)), (4, .inl (.int z))]) (st' := [.inl (.int 1)]) ⟨dL_runs_48, trivial⟩ rfl rfl ?_
    refine wl_goto (tgt := 53) dL_runs_49 (by decide) ?_
    exact wl_zret rfl rfl rfl dL_runs_53 ⟨rfl, _, _, rfl, I⟩
