/-! ===== own: the law's body from its entry ===== -/
section START
variable {g : GT} {M : MT} {d uc us pc : Nat} {L : List (Nat × AV)} {st : List AV} {h : Hp} {Φ : Rs → Hp → Prop}
theorem wx_newJ (h0 : xCN h 17 = 0) (hd : decode (mC M) pc = .ok (.newarray .long, 2)) (hz : xAL h = fun _ => 0)
    (kk : WP g M d uc us (pc + 2) L (.inr (17, some 0) :: st) (sNA h 17) Φ) : WP g M d (uc + 1) (us + 1) pc L (.inl (.int 1) :: st) h Φ := by
  refine wx_newarr (s := 17) (n := 1) (at9 := .long) (k := 2) (a0 := (1, .inr (.inl (xAL h)))) (Or.inr (Or.inr (Or.inl rfl))) (fun _ => h0) (by decide) (by decide) (by decide) arr_long (fun _ => rfl) (fun _ _ q => q) (fun ad => rfl) (fun cA => ?_) hd ?_
  · rw [hz]; rfl
  · rw [h0]; exact kk
theorem wx_newD (h0 : xCN h 18 = 0) (hd : decode (mC M) pc = .ok (.newarray .double, 2)) (hz : xAD h = fun _ => 0)
    (kk : WP g M d uc us (pc + 2) L (.inr (18, some 0) :: st) (sNA h 18) Φ) : WP g M d (uc + 1) (us + 1) pc L (.inl (.int 1) :: st) h Φ := by
  refine wx_newarr (s := 18) (n := 1) (at9 := .double) (k := 3) (a0 := (1, .inr (.inr (.inr (.inl (xAD h)))))) (Or.inr (Or.inr (Or.inr rfl))) (fun _ => h0) (by decide) (by decide) (by decide) arr_double (fun _ => rfl) (fun _ _ q => q) (fun ad => rfl) (fun cA => ?_) hd ?_
  · rw [hz]; rfl
  · rw [h0]; exact kk
set_option maxRecDepth 100000 in
set_option maxHeartbeats 4000000 in
theorem law_body {S : Nat → Int32} {n : Nat} (hn : n ≤ 3584) : WP g M_L_law 15 (24 * 512 + 54) (400 * 512 + 6600) 0 [(0, .inr (16, some 0))] [] (Hw0 S n) Φ := by
  refine WP.room (uc' := (24 * 512 + 53) + 1) (us' := (400 * 512 + 6594) + 6) (by omega) (by omega) ?_
  refine wx_newC (M := M_L_law) (s := 9) (i := 0) rfl cls_9 cl_L_8 in_9 ini_9 dL_law_0 ?_
  refine wp_run [(.dup, 1)] (pc' := 4) (L' := [(0, .inr (16, some 0))]) (st' := [.inr (9, some 0), .inr (9, some 0)]) ⟨dL_law_3, trivial⟩ rfl rfl ?_
  refine WP.room (uc' := (24 * 512 + 39) + 14) (us' := (400 * 512 + 6339) + 255) (by omega) (by omega) ?_
  refine wx_ctorDP (M := M_L_law) (s := 9) (i := 0) (As := []) (rest := [.inr (9, some 0)]) (ok_X8_init _ _) rfl rfl ml_L_89 im_X8_init (by omega) (c_X8_init (d := 14) (by omega) rfl rfl rfl rfl rfl rfl rfl rfl rfl rfl rfl rfl rfl rfl rfl rfl) rfl rfl (Nat.le_of_ble_eq_true rfl) dL_law_4 (fun _ => ?_)
  refine wp_run [(.astore_n 1, 1)] (pc' := 8) (L' := [(1, .inr (9, some 0)), (0, .inr (16, some 0))]) (st' := []) ⟨dL_law_7, trivial⟩ rfl rfl ?_
  refine WP.room (uc' := (24 * 512 + 38) + 1) (us' := (400 * 512 + 6290) + 44) (by omega) (by omega) ?_
  refine wx_newC (M := M_L_law) (s := 10) (i := 0) rfl cls_10 cl_L_90 in_10 ini_10 dL_law_8 ?_
  refine wp_run [(.dup, 1)] (pc' := 12) (L' := [(1, .inr (9, some 0)), (0, .inr (16, some 0))]) (st' := [.inr (10, some 0), .inr (10, some 0)]) ⟨dL_law_11, trivial⟩ rfl rfl ?_
  refine WP.room (uc' := (24 * 512 + 2) + 36) (us' := (400 * 512 + 90) + 6200) (by omega) (by omega) ?_
  refine wx_ctorDP (M := M_L_law) (s := 10) (i := 0) (As := []) (rest := [.inr (10, some 0)]) (ok_X9_init _ _) rfl rfl ml_L_92 im_X9_init (by omega) (c_X9_init (d := 14) (by omega) Hw1_q4) rfl rfl (Nat.le_of_ble_eq_true rfl) dL_law_12 (fun _ => ?_)
  refine (?_ : WP g M_L_law 15 (24 * 512 + 2) (400 * 512 + 90) 15 _ _ (Hw1 S n) Φ)
  have z17 : xCN (Hw1 S n) 17 = 0 := rfl
  have z18 : xCN (sNA (Hw1 S n) 17) 18 = 0 := rfl
  have zl : xAL (Hw1 S n) = fun _ => 0 := rfl
  have zd : xAD (sNA (Hw1 S n) 17) = fun _ => 0 := rfl
  have I : Inv S n (sNA (sNA (Hw1 S n) 17) 18) := Hw2_inv
  generalize Hw1 S n = h1 at z17 z18 zl zd I ⊢
  refine wp_run [(.astore_n 2, 1), (.iconst 1, 1)] (pc' := 17) (L' := [(2, .inr (10, some 0)), (1, .inr (9, some 0)), (0, .inr (16, some 0))]) (st' := [.inl (.int 1)]) ⟨dL_law_15, dL_law_16, trivial⟩ rfl rfl ?_
  refine WP.room (uc' := (24 * 512 + 1) + 1) (us' := (400 * 512 + 1) + 1) (by omega) (by omega) ?_
  refine wx_newJ (M := M_L_law) z17 dL_law_17 zl ?_
  refine wp_run [(.astore_n 3, 1), (.iconst 1, 1)] (pc' := 21) (L' := [(3, .inr (17, some 0)), (2, .inr (10, some 0)), (1, .inr (9, some 0)), (0, .inr (16, some 0))]) (st' := [.inl (.int 1)]) ⟨dL_law_19, dL_law_20, trivial⟩ rfl rfl ?_
  refine WP.room (uc' := 24 * 512 + 1) (us' := 400 * 512 + 1) (by omega) (by omega) ?_
  refine wx_newD (M := M_L_law) z18 dL_law_21 zd ?_
  refine wp_run [(.astore 4, 2), (.iconst 0, 1), (.istore 5, 2)] (pc' := 28) (L' := [(5, .inl (.int (nI 0))), (4, .inr (18, some 0)), (3, .inr (17, some 0)), (2, .inr (10, some 0)), (1, .inr (9, some 0)), (0, .inr (16, some 0))]) (st' := []) ⟨dL_law_23, dL_law_25, dL_law_26, trivial⟩ rfl rfl ?_
  refine wp_sub [5, 0, 1, 2, 3, 4] (L' := [(0, .inr (16, some 0)), (5, .inl (.int (nI 0))), (4, .inr (18, some 0)), (3, .inr (17, some 0)), (2, .inr (10, some 0)), (1, .inr (9, some 0))]) rfl ?_
  exact law_loop (by omega) hn 512 0 _ (by omega) (by omega) I
end START
set_option maxRecDepth 100000 in
/-- from the entry, for every script of at most 3584 ints, the law comes to its end with true -/
theorem whole_start {p : Program} {e : Env} {s : State} {m : MethodId} {below : List Frame} {meth : Method} {c : Code} (l : Launch) (hflags : l.flags = flags0) {b L : Nat} {xs : Nat → Int32} (hL : L ≤ 3584) (C0 : lw_At p s m meth c b L xs) : W p l e room_1 s m #[Value.ref b] below meth c s.heap [] 0 0 (lw_Z below #[Value.ref b] s) (entryFrame m ([Value.ref b] : List Value).toArray 9) := by
  obtain ⟨D, cA, ea, ca, hSF, hC, hne, hcl⟩ := ws_SF l hflags C0
  obtain ⟨hx, hb, hr, hml, hown, hts, hX, hbl, hlocks, hgv⟩ := id C0
  have hR : Rel (l, s, #[Value.ref b], D, cA, ea, ca) (fun t _ => if t = 15 then ca else b) (Hw0 xs L) s.heap := ws_R hX hC hne
  have hl := lv_entry ([.ref b]) (n := 9) (Nat.le_of_ble_eq_true rfl)
  rw [lg_entry_eq]
  generalize (lg_sl ([.ref b]) ++ List.replicate (9 - (lg_sl ([.ref b])).length) Slot.unset).toArray = ls at hl ⊢
  have hl : lv_has ls 9 [(0, .ref b)] := hl
  have K := law_body (g := (l, s, #[Value.ref b], D, cA, ea, ca)) (Φ := fun _ _ => True) (S := xs) hL hSF p e room_1 s m #[Value.ref b] below meth c s.heap [] 0 0 ls (fun t _ => if t = 15 then ca else b) (fun t _ => if t = 15 then ca else b) (xCN (Hw0 xs L))
    ⟨hx, hb, hml, hr, hown, hlocks, State.WarmedH.refl s, (fun z => absurd z (by decide)), (fun _ => ⟨⟨b, rfl⟩, Nat.le_refl _⟩)⟩
    (Nat.le_of_ble_eq_true rfl) (Nat.le_of_ble_eq_true rfl) (Nat.le_of_ble_eq_true rfl) (Nat.le_of_ble_eq_true rfl) (fun _ => rfl) (Ext.refl _ _) hR (Nat.le_refl _) va_S.rf hl (fun q hq => by
      rcases List.mem_cons.mp hq with rfl | hq
      · exact ⟨by decide, by decide, fun i e => by cases e; exact Nat.one_pos⟩
      · cases hq) (fun v hv => by cases hv)
  have hM : mL M_L_law ≠ 0 := by decide
  simp only [cy_Fi, hM, if_false] at K
  exact K
