/-! ===== own: the class's calls over the law's world ===== -/
/-- what every call finds -/
def LQ (h : Hp) : Prop := CW h ∧ CN h ∧ 0 < xCN h 9 ∧ xCN h 16 = 0
theorem LQ.sr {h h' : Hp} (q : LQ h) (x : SR h h') : LQ h' := ⟨q.1.sr x, q.2.1.sr x, by rw [x.eqv]; exact q.2.2.1, by rw [x.eqv]; exact q.2.2.2⟩
theorem detP_to0 {g : GT} {M : MT} {d : Nat} {h : Hp} {r0 r1 : Rs} {h0 : Hp} {av : List AV} {bc bs : Nat} {P : Prop} (hC : Ctr g M d bc bs av h (cy_detP r0 h0 P)) (e1 : r0 = r1) : Ctr g M d bc bs av h (cy_detP r1 h0 P) := by subst e1; exact hC
theorem nums_c {x : Int32} {ns : List AV} (h : nums ns) : nums (.inl (.int x) :: ns) := fun v hv => by
  rcases List.mem_cons.mp hv with rfl | hv
  · exact ⟨_, rfl⟩
  · exact h v hv
theorem nums_n : nums [] := fun v hv => by cases hv
theorem SB.gz {h h' : Hp} (x : ZX h h') {r r' : Rs × Hp} (s : SB h h' r r') (gz : GZ h r.2) : r'.1 = r.1 ∧ GZ h r'.2 := by
  rcases s with e | ⟨e, e1, e2⟩
  · rw [e]; exact ⟨rfl, gz⟩
  · rw [e1, e2]; exact ⟨rfl, x.gz⟩
theorem gz_arrival (h : Hp) (a b ti n : Int32) : GZ h (F_X8_arrival h a b ti n).2 := by
  unfold F_X8_arrival
  repeat' split
  all_goals first | exact GZ.rf | exact (zx_seek _ _ _ _ _).gz
theorem gz_front (h : Hp) (a b ti : Int32) : GZ h (F_X8_front h a b ti).2 := by
  have zk := (zx_seek h a b ti 4).gz
  have key : ∀ (fu : Nat) (le su : Int32) (k : Nat), GZ h (L_X8_front_28 h a b ti fu le su k).2 := by
    intro fu
    induction fu with
    | zero => intro le su k; exact GZ.rf
    | succ fu ih =>
      intro le su k
      rw [L_X8_front_28_s]
      unfold B_X8_front_28
      generalize F_X5_seek h a b ti 4 = K at zk ⊢
      repeat' split
      · exact zk
      · exact ih _ _ _
      · exact ih _ _ _
  unfold F_X8_front
  split
  · exact key _ _ _ _
  · exact GZ.rf
theorem gz_best (h : Hp) (a b ti : Int32) : GZ h (F_X8_best h a b ti).2 := by
  have key : ∀ (fu : Nat) (H : Hp) (ch : Int32) (le : UInt64) (k : Nat), GZ h H → GZ h (L_X8_best_27 h a b ti fu H ch le k).2 := by
    intro fu
    induction fu with
    | zero => intro H ch le k g; exact g
    | succ fu ih =>
      intro H ch le k g
      rw [L_X8_best_27_s]
      unfold B_X8_best_27
      repeat' split
      · exact g
      all_goals exact ih _ _ _ _ (g.trans (tell_gz _))
  unfold F_X8_best
  split
  · have zk := (zx_seek h a b ti 4).gz
    generalize F_X5_seek h a b ti 4 = K at zk ⊢
    exact key _ _ _ _ _ zk
  · exact GZ.rf
theorem gz_ride (h : Hp) (a b ti n ri wh : Int32) : GZ h (F_X8_ride h a b ti n ri wh).2 := by
  have t := (zx_seek h a b ti n).gz.trans (tell_gz n.toNatClampNeg)
  unfold F_X8_ride
  generalize F_X5_tell (F_X5_seek h a b ti n) n.toNatClampNeg = T at t ⊢
  repeat' split
  all_goals first | exact GZ.rf | exact t
theorem gz_journey (h : Hp) (a b ti n wh : Int32) (hw : wh = 0 ∨ wh = 1 ∨ wh = 2 ∨ ¬ okR wh 0 3) : GZ h (F_X8_journey h a b ti n wh).2 := by
  have t := (zx_seek h a b ti n).gz.trans (tell_gz n.toNatClampNeg)
  unfold F_X8_journey
  generalize F_X5_tell (F_X5_seek h a b ti n) n.toNatClampNeg = T at t ⊢
  rcases hw with rfl | rfl | rfl | hw
  · repeat' split
    all_goals first | contradiction | exact GZ.rf | exact t
  · repeat' split
    all_goals first | contradiction | exact GZ.rf | exact t
  · repeat' split
    all_goals first | contradiction | exact GZ.rf | exact t
  · rw [if_neg hw]
    repeat' split
    all_goals exact GZ.rf
/-- a booking refused leaves all as it was -/
theorem gz_book (h : Hp) (a b ti n : Int32) {E : String} (e : (F_X8_book h a b ti n).1 = .inr E) : GZ h (F_X8_book h a b ti n).2 := by
  have t := (zx_seek h a b ti n).gz.trans (tell_gz n.toNatClampNeg)
  revert e
  unfold F_X8_book
  generalize F_X5_tell (F_X5_seek h a b ti n) n.toNatClampNeg = T at t ⊢
  repeat' split
  all_goals first | (intro e; cases e; done) | (intro e; exact GZ.rf) | (intro e; exact t)
/-- what a booking leaves, what is forgotten apart -/
def N_book (h : Hp) (a b ti n : Int32) : Hp := match (F_X8_book h a b ti n).1 with
  | .inl _ => (F_X8_book h a b ti n).2
  | .inr _ => h

theorem nr_stop (h : Hp) (x : Int32) : numR (F_X8_stop h x).1 := by
  unfold F_X8_stop
  repeat' split
  all_goals first | (intro v e; cases e; done) | (intro v e; cases e; exact ⟨_, rfl⟩)
theorem cl_stop {g : GT} {d q : Nat} {w : Wd} (hd : 7 ≤ d) (x : Int32) (hq : q = 1 ∨ q = 2) (W : CW (wq q w)) (C : CN (wq q w)) (hk : LQ (F_X8_stop (wq q w) x).2) : CL g M_X8_stop d 2 12 [.inr (q, some 0), .inl (.int x)] w (cl_det (F_X8_stop (wq q w) x).1 (ws q w (F_X8_stop (wq q w) x).2)) :=
  lift hq (nums_c nums_n) (nr_stop _ _) hk.2.2.1 hk.2.2.2 (fun g' h' zx => by
    have z := z_stop zx x
    exact ⟨(F_X8_stop h' x).2, det_of (detP_to0 (c_X8_stop hd (W.sr zx.1) x) z.1), z.2.gz, fun _ c => c.zx z.2.symm⟩)
theorem nr_footway (h : Hp) (a b mi : Int32) : numR (F_X8_footway h a b mi).1 := by
  unfold F_X8_footway
  repeat' split
  all_goals first | (intro v e; cases e; done) | (intro v e; cases e; exact ⟨_, rfl⟩)
theorem cl_footway {g : GT} {d q : Nat} {w : Wd} (hd : 7 ≤ d) (a b mi : Int32) (hq : q = 1 ∨ q = 2) (W : CW (wq q w)) (C : CN (wq q w)) (hk : LQ (F_X8_footway (wq q w) a b mi).2) : CL g M_X8_footway d 4 24 [.inr (q, some 0), .inl (.int a), .inl (.int b), .inl (.int mi)] w (cl_det (F_X8_footway (wq q w) a b mi).1 (ws q w (F_X8_footway (wq q w) a b mi).2)) :=
  lift hq (nums_c (nums_c (nums_c nums_n))) (nr_footway _ _ _ _) hk.2.2.1 hk.2.2.2 (fun g' h' zx => by
    have z := z_footway zx a b mi
    exact ⟨(F_X8_footway h' a b mi).2, det_of (detP_to0 (c_X8_footway hd (W.sr zx.1) a b mi) z.1), z.2.gz, fun _ c => c.zx z.2.symm⟩)
theorem nr_calls (h : Hp) (t s ri wa : Int32) : numR (F_X8_calls h t s ri wa).1 := by
  unfold F_X8_calls
  repeat' split
  all_goals first | (intro v e; cases e; done) | (intro v e; cases e; exact ⟨_, rfl⟩)
theorem cl_calls {g : GT} {d q : Nat} {w : Wd} (hd : 8 ≤ d) (t s ri wa : Int32) (hq : q = 1 ∨ q = 2) (W : CW (wq q w)) (C : CN (wq q w)) (hk : LQ (F_X8_calls (wq q w) t s ri wa).2) : CL g M_X8_calls d 5 30 [.inr (q, some 0), .inl (.int t), .inl (.int s), .inl (.int ri), .inl (.int wa)] w (cl_det (F_X8_calls (wq q w) t s ri wa).1 (ws q w (F_X8_calls (wq q w) t s ri wa).2)) :=
  lift hq (nums_c (nums_c (nums_c (nums_c nums_n)))) (nr_calls _ _ _ _ _) hk.2.2.1 hk.2.2.2 (fun g' h' zx => by
    have z := z_calls zx t s ri wa
    exact ⟨(F_X8_calls h' t s ri wa).2, det_of (detP_to0 (c_X8_calls hd (W.sr zx.1) t s ri wa) z.1), z.2.gz, fun _ c => c.zx z.2.symm⟩)
theorem nr_runs (h : Hp) (t dy v : Int32) : numR (F_X8_runs h t dy v).1 := by
  unfold F_X8_runs
  repeat' split
  all_goals first | (intro v e; cases e; done) | (intro v e; cases e; exact ⟨_, rfl⟩)
theorem cl_runs {g : GT} {d q : Nat} {w : Wd} (hd : 8 ≤ d) (t dy v : Int32) (hq : q = 1 ∨ q = 2) (W : CW (wq q w)) (C : CN (wq q w)) (hk : LQ (F_X8_runs (wq q w) t dy v).2) (hv : narrow .boolean (.int v) = .int v) : CL g M_X8_runs d 2 12 [.inr (q, some 0), .inl (.int t), .inl (.int dy), .inl (.int v)] w (cl_det (F_X8_runs (wq q w) t dy v).1 (ws q w (F_X8_runs (wq q w) t dy v).2)) :=
  lift hq (nums_c (nums_c (nums_c nums_n))) (nr_runs _ _ _ _) hk.2.2.1 hk.2.2.2 (fun g' h' zx => by
    have z := z_runs zx t dy v
    exact ⟨(F_X8_runs h' t dy v).2, det_of (detP_to0 (c_X8_runs hd (W.sr zx.1) t dy v hv) z.1), z.2.gz, fun _ c => c.zx z.2.symm⟩)
theorem nr_delay (h : Hp) (t dy mi : Int32) : numR (F_X8_delay h t dy mi).1 := by
  unfold F_X8_delay
  repeat' split
  all_goals first | (intro v e; cases e; done) | (intro v e; cases e; exact ⟨_, rfl⟩)
theorem cl_delay {g : GT} {d q : Nat} {w : Wd} (hd : 8 ≤ d) (t dy mi : Int32) (hq : q = 1 ∨ q = 2) (W : CW (wq q w)) (C : CN (wq q w)) (hk : LQ (F_X8_delay (wq q w) t dy mi).2) : CL g M_X8_delay d 3 18 [.inr (q, some 0), .inl (.int t), .inl (.int dy), .inl (.int mi)] w (cl_det (F_X8_delay (wq q w) t dy mi).1 (ws q w (F_X8_delay (wq q w) t dy mi).2)) :=
  lift hq (nums_c (nums_c (nums_c nums_n))) (nr_delay _ _ _ _) hk.2.2.1 hk.2.2.2 (fun g' h' zx => by
    have z := z_delay zx t dy mi
    exact ⟨(F_X8_delay h' t dy mi).2, det_of (detP_to0 (c_X8_delay hd (W.sr zx.1) t dy mi) z.1), z.2.gz, fun _ c => c.zx z.2.symm⟩)
theorem nr_note (h : Hp) (t mi : Int32) : numR (F_X8_note h t mi).1 := by
  unfold F_X8_note
  repeat' split
  all_goals first | (intro v e; cases e; done) | (intro v e; cases e; exact ⟨_, rfl⟩)
theorem cl_note {g : GT} {d q : Nat} {w : Wd} (hd : 8 ≤ d) (t mi : Int32) (hq : q = 1 ∨ q = 2) (W : CW (wq q w)) (C : CN (wq q w)) (hk : LQ (F_X8_note (wq q w) t mi).2) : CL g M_X8_note d 3 18 [.inr (q, some 0), .inl (.int t), .inl (.int mi)] w (cl_det (F_X8_note (wq q w) t mi).1 (ws q w (F_X8_note (wq q w) t mi).2)) :=
  lift hq (nums_c (nums_c nums_n)) (nr_note _ _ _) hk.2.2.1 hk.2.2.2 (fun g' h' zx => by
    have z := z_note zx t mi
    exact ⟨(F_X8_note h' t mi).2, det_of (detP_to0 (c_X8_note hd (W.sr zx.1) t mi) z.1), z.2.gz, fun _ c => c.zx z.2.symm⟩)
theorem nr_prices (h : Hp) (f ba ce su : Int32) : numR (F_X8_prices h f ba ce su).1 := by
  unfold F_X8_prices
  repeat' split
  all_goals first | (intro v e; cases e; done) | (intro v e; cases e; exact ⟨_, rfl⟩)
theorem cl_prices {g : GT} {d q : Nat} {w : Wd} (hd : 7 ≤ d) (f ba ce su : Int32) (hq : q = 1 ∨ q = 2) (W : CW (wq q w)) (C : CN (wq q w)) (hk : LQ (F_X8_prices (wq q w) f ba ce su).2) : CL g M_X8_prices d 4 24 [.inr (q, some 0), .inl (.int f), .inl (.int ba), .inl (.int ce), .inl (.int su)] w (cl_det (F_X8_prices (wq q w) f ba ce su).1 (ws q w (F_X8_prices (wq q w) f ba ce su).2)) :=
  lift hq (nums_c (nums_c (nums_c (nums_c nums_n)))) (nr_prices _ _ _ _ _) hk.2.2.1 hk.2.2.2 (fun g' h' zx => by
    have z := z_prices zx f ba ce su
    exact ⟨(F_X8_prices h' f ba ce su).2, det_of (detP_to0 (c_X8_prices hd (W.sr zx.1) f ba ce su) z.1), z.2.gz, fun _ c => c.zx z.2.symm⟩)
theorem nr_buy (h : Hp) (x : Int32) : numR (F_X8_buy h x).1 := by
  unfold F_X8_buy
  repeat' split
  all_goals first | (intro v e; cases e; done) | (intro v e; cases e; exact ⟨_, rfl⟩)
theorem cl_buy {g : GT} {d q : Nat} {w : Wd} (hd : 8 ≤ d) (x : Int32) (hq : q = 1 ∨ q = 2) (W : CW (wq q w)) (C : CN (wq q w)) (hk : LQ (F_X8_buy (wq q w) x).2) : CL g M_X8_buy d 2 12 [.inr (q, some 0), .inl (.int x)] w (cl_det (F_X8_buy (wq q w) x).1 (ws q w (F_X8_buy (wq q w) x).2)) :=
  lift hq (nums_c nums_n) (nr_buy _ _) hk.2.2.1 hk.2.2.2 (fun g' h' zx => by
    have z := z_buy zx x
    exact ⟨(F_X8_buy h' x).2, det_of (detP_to0 (c_X8_buy hd (W.sr zx.1) x) z.1), z.2.gz, fun _ c => c.zx z.2.symm⟩)
theorem nr_claim (h : Hp) (x : Int32) : numR (F_X8_claim h x).1 := by
  unfold F_X8_claim
  repeat' split
  all_goals first | (intro v e; cases e; done) | (intro v e; cases e; exact ⟨_, rfl⟩)
theorem cl_claim {g : GT} {d q : Nat} {w : Wd} (hd : 8 ≤ d) (x : Int32) (hq : q = 1 ∨ q = 2) (W : CW (wq q w)) (C : CN (wq q w)) (hk : LQ (F_X8_claim (wq q w) x).2) : CL g M_X8_claim d 2 12 [.inr (q, some 0), .inl (.int x)] w (cl_det (F_X8_claim (wq q w) x).1 (ws q w (F_X8_claim (wq q w) x).2)) :=
  lift hq (nums_c nums_n) (nr_claim _ _) hk.2.2.1 hk.2.2.2 (fun g' h' zx => by
    have z := z_claim zx x
    exact ⟨(F_X8_claim h' x).2, det_of (detP_to0 (c_X8_claim hd (W.sr zx.1) x) z.1), z.2.gz, fun _ c => c.zx z.2.symm⟩)
theorem nr_pass (h : Hp) (x : Int32) : numR (F_X8_pass h x).1 := by
  have key : ∀ (fu : Nat) (H : Hp) (dr : Int32) (i : Nat), numR (L_X8_pass_22 h x fu H dr i).1 := by
    intro fu
    induction fu with
    | zero => intro H dr i v e; cases e
    | succ fu ih =>
      intro H dr i
      rw [L_X8_pass_22_s]
      unfold B_X8_pass_22
      repeat' split
      · intro v e; cases e; exact ⟨_, rfl⟩
      all_goals exact ih _ _ _
  unfold F_X8_pass
  repeat' split
  all_goals first | exact key _ _ _ _ | (intro v e; cases e; done)
theorem cl_pass {g : GT} {d q : Nat} {w : Wd} (hd : 7 ≤ d) (x : Int32) (hq : q = 1 ∨ q = 2) (W : CW (wq q w)) (C : CN (wq q w)) (hk : LQ (F_X8_pass (wq q w) x).2) : CL g M_X8_pass d 1 6 [.inr (q, some 0), .inl (.int x)] w (cl_det (F_X8_pass (wq q w) x).1 (ws q w (F_X8_pass (wq q w) x).2)) :=
  lift hq (nums_c nums_n) (nr_pass _ _) hk.2.2.1 hk.2.2.2 (fun g' h' zx => by
    have z := z_pass zx x
    exact ⟨(F_X8_pass h' x).2, det_of (detP_to0 (c_X8_pass hd (W.sr zx.1) x) z.1), z.2.gz, fun _ c => c.zx z.2.symm⟩)
theorem nr_trip (h : Hp) (mo fi se da s mi : Int32) : numR (F_X8_trip h mo fi se da s mi).1 := by
  unfold F_X8_trip
  repeat' split
  all_goals first | (intro v e; cases e; done) | (intro v e; cases e; exact ⟨_, rfl⟩)
theorem cl_trip {g : GT} {d q : Nat} {w : Wd} (hd : 13 ≤ d) (mo fi se da s mi : Int32) (hq : q = 1 ∨ q = 2) (W : CW (wq q w)) (C : CN (wq q w)) (hk : LQ (F_X8_trip (wq q w) mo fi se da s mi).2) : CL g M_X8_trip d 14 400 [.inr (q, some 0), .inl (.int mo), .inl (.int fi), .inl (.int se), .inl (.int da), .inl (.int s), .inl (.int mi)] w (cl_det (F_X8_trip (wq q w) mo fi se da s mi).1 (ws q w (F_X8_trip (wq q w) mo fi se da s mi).2)) :=
  lift hq (nums_c (nums_c (nums_c (nums_c (nums_c (nums_c nums_n)))))) (nr_trip _ _ _ _ _ _ _) hk.2.2.1 hk.2.2.2 (fun g' h' zx => by
    have z := z_trip zx mo fi se da s mi
    exact ⟨(F_X8_trip h' mo fi se da s mi).2, det_of (detP_to0 (c_X8_trip hd (W.sr zx.1) mo fi se da s mi (C.sr zx.1)) z.1), z.2.gz, fun _ c => c.zx z.2.symm⟩)
theorem nr_arrivalAnew (h : Hp) (a b ti n : Int32) : numR (F_X8_arrivalAnew h a b ti n).1 := by
  unfold F_X8_arrivalAnew
  repeat' split
  all_goals first | (intro v e; cases e; done) | (intro v e; cases e; exact ⟨_, rfl⟩)
theorem cl_arrivalAnew {g : GT} {d q : Nat} {w : Wd} (hd : 12 ≤ d) (a b ti n : Int32) (hq : q = 1 ∨ q = 2) (W : CW (wq q w)) (C : CN (wq q w)) (hk : LQ (F_X8_arrivalAnew (wq q w) a b ti n).2) : CL g M_X8_arrivalAnew d 5 30 [.inr (q, some 0), .inl (.int a), .inl (.int b), .inl (.int ti), .inl (.int n)] w (cl_det (F_X8_arrivalAnew (wq q w) a b ti n).1 (ws q w (F_X8_arrivalAnew (wq q w) a b ti n).2)) :=
  lift hq (nums_c (nums_c (nums_c (nums_c nums_n)))) (nr_arrivalAnew _ _ _ _ _) hk.2.2.1 hk.2.2.2 (fun g' h' zx => by
    have z := z_anew zx a b ti n
    exact ⟨(F_X8_arrivalAnew h' a b ti n).2, det_of (detP_to0 (c_X8_arrivalAnew hd (W.sr zx.1) a b ti n) z.1), z.2.gz, fun _ c => c.zx z.2.symm⟩)
theorem nr_right (h : Hp) (x : Int32) : numR (F_X8_right h x) := by
  unfold F_X8_right
  repeat' split
  all_goals first | (intro v e; cases e; done) | (intro v e; cases e; exact ⟨_, rfl⟩)
theorem cl_right {g : GT} {d q : Nat} {w : Wd} (hd : 8 ≤ d) (x : Int32) (hq : q = 1 ∨ q = 2) (L : LQ (wq q w)) : CL g M_X8_right d 1 6 [.inr (q, some 0), .inl (.int x)] w (cl_det (F_X8_right (wq q w) x) (ws q w (wq q w))) :=
  lift hq (nums_c nums_n) (nr_right _ _) L.2.2.1 L.2.2.2 (fun g' h' zx => by
    have z := z_right zx x
    exact ⟨h', det_to (c_X8_right hd (L.1.sr zx.1) x) z rfl, zx.gz, fun c _ => c.zx zx.symm⟩)
theorem nr_concerned (h : Hp) (t dy : Int32) : numR (F_X8_concerned h t dy) := by
  have key : ∀ (fu : Nat) (su : Int32) (i : Nat), numR (L_X8_concerned_19 h t dy fu su i) := by
    intro fu
    induction fu with
    | zero => intro su i v e; cases e
    | succ fu ih =>
      intro su i
      rw [L_X8_concerned_19_s]
      unfold B_X8_concerned_19
      repeat' split
      · intro v e; cases e; exact ⟨_, rfl⟩
      all_goals exact ih _ _
  unfold F_X8_concerned
  repeat' split
  all_goals first | exact key _ _ _ | (intro v e; cases e; done)
theorem cl_concerned {g : GT} {d q : Nat} {w : Wd} (hd : 8 ≤ d) (t dy : Int32) (hq : q = 1 ∨ q = 2) (L : LQ (wq q w)) : CL g M_X8_concerned d 2 12 [.inr (q, some 0), .inl (.int t), .inl (.int dy)] w (cl_det (F_X8_concerned (wq q w) t dy) (ws q w (wq q w))) :=
  lift hq (nums_c (nums_c nums_n)) (nr_concerned _ _ _) L.2.2.1 L.2.2.2 (fun g' h' zx => by
    have z := z_concerned zx t dy
    exact ⟨h', det_to (c_X8_concerned hd (L.1.sr zx.1) t dy) z rfl, zx.gz, fun c _ => c.zx zx.symm⟩)
theorem nr_seats (h : Hp) (t dy : Int32) : numR (F_X8_seats h t dy) := by
  unfold F_X8_seats
  repeat' split
  all_goals first | (intro v e; cases e; done) | (intro v e; cases e; exact ⟨_, rfl⟩)
theorem cl_seats {g : GT} {d q : Nat} {w : Wd} (hd : 8 ≤ d) (t dy : Int32) (hq : q = 1 ∨ q = 2) (L : LQ (wq q w)) : CL g M_X8_seats d 2 12 [.inr (q, some 0), .inl (.int t), .inl (.int dy)] w (cl_det (F_X8_seats (wq q w) t dy) (ws q w (wq q w))) :=
  lift hq (nums_c (nums_c nums_n)) (nr_seats _ _ _) L.2.2.1 L.2.2.2 (fun g' h' zx => by
    have z := z_seats zx t dy
    exact ⟨h', det_to (c_X8_seats hd (L.1.sr zx.1) t dy) z rfl, zx.gz, fun c _ => c.zx zx.symm⟩)
theorem nr_ofBooking (h : Hp) (x wh : Int32) : numR (F_X8_ofBooking h x wh) := by
  unfold F_X8_ofBooking
  repeat' split
  all_goals first | (intro v e; cases e; done) | (intro v e; cases e; exact ⟨_, rfl⟩)
theorem cl_ofBooking {g : GT} {d q : Nat} {w : Wd} (hd : 8 ≤ d) (x wh : Int32) (hq : q = 1 ∨ q = 2) (L : LQ (wq q w)) : CL g M_X8_ofBooking d 2 12 [.inr (q, some 0), .inl (.int x), .inl (.int wh)] w (cl_det (F_X8_ofBooking (wq q w) x wh) (ws q w (wq q w))) :=
  lift hq (nums_c (nums_c nums_n)) (nr_ofBooking _ _ _) L.2.2.1 L.2.2.2 (fun g' h' zx => by
    have z := z_ofBooking zx x wh
    exact ⟨h', det_to (c_X8_ofBooking hd (L.1.sr zx.1) x wh) z rfl, zx.gz, fun c _ => c.zx zx.symm⟩)
theorem nr_arrival (h : Hp) (a b ti n : Int32) : numR (F_X8_arrival h a b ti n).1 := by
  unfold F_X8_arrival
  repeat' split
  all_goals first | (intro v e; cases e; done) | (intro v e; cases e; exact ⟨_, rfl⟩)
theorem cl_arrival {g : GT} {d q : Nat} {w : Wd} (hd : 9 ≤ d) (a b ti n : Int32) (hq : q = 1 ∨ q = 2) (L : LQ (wq q w)) : CL g M_X8_arrival d 5 30 [.inr (q, some 0), .inl (.int a), .inl (.int b), .inl (.int ti), .inl (.int n)] w (cl_det (F_X8_arrival (wq q w) a b ti n).1 (ws q w (wq q w))) :=
  lift hq (nums_c (nums_c (nums_c (nums_c nums_n)))) (nr_arrival _ _ _ _ _) L.2.2.1 L.2.2.2 (fun g' h' zx => by
    have z := (z_arrival zx a b ti n).gz zx (gz_arrival _ a b ti n)
    exact ⟨(F_X8_arrival h' a b ti n).2, det_of (detP_to0 (c_X8_arrival hd (L.1.sr zx.1) a b ti n) z.1), z.2, fun c _ => c.zx zx.symm⟩)
theorem nr_front (h : Hp) (a b ti : Int32) : numR (F_X8_front h a b ti).1 := by
  have key : ∀ (fu : Nat) (le su : Int32) (k : Nat), numR (L_X8_front_28 h a b ti fu le su k).1 := by
    intro fu
    induction fu with
    | zero => intro le su k v e; cases e
    | succ fu ih =>
      intro le su k
      rw [L_X8_front_28_s]
      unfold B_X8_front_28
      repeat' split
      · intro v e; cases e; exact ⟨_, rfl⟩
      all_goals exact ih _ _ _
  unfold F_X8_front
  split
  · exact key _ _ _ _
  · intro v e; cases e
theorem cl_front {g : GT} {d q : Nat} {w : Wd} (hd : 9 ≤ d) (a b ti : Int32) (hq : q = 1 ∨ q = 2) (L : LQ (wq q w)) : CL g M_X8_front d 4 24 [.inr (q, some 0), .inl (.int a), .inl (.int b), .inl (.int ti)] w (cl_det (F_X8_front (wq q w) a b ti).1 (ws q w (wq q w))) :=
  lift hq (nums_c (nums_c (nums_c nums_n))) (nr_front _ _ _ _) L.2.2.1 L.2.2.2 (fun g' h' zx => by
    have z := (z_front zx a b ti).gz zx (gz_front _ a b ti)
    exact ⟨(F_X8_front h' a b ti).2, det_of (detP_to0 (c_X8_front hd (L.1.sr zx.1) a b ti) z.1), z.2, fun c _ => c.zx zx.symm⟩)
theorem nr_best (h : Hp) (a b ti : Int32) : numR (F_X8_best h a b ti).1 := by
  have key : ∀ (fu : Nat) (H : Hp) (ch : Int32) (le : UInt64) (k : Nat), numR (L_X8_best_27 h a b ti fu H ch le k).1 := by
    intro fu
    induction fu with
    | zero => intro H ch le k v e; cases e
    | succ fu ih =>
      intro H ch le k
      rw [L_X8_best_27_s]
      unfold B_X8_best_27
      repeat' split
      · intro v e; cases e; exact ⟨_, rfl⟩
      all_goals exact ih _ _ _ _
  unfold F_X8_best
  split
  · exact key _ _ _ _ _
  · intro v e; cases e
theorem cl_best {g : GT} {d q : Nat} {w : Wd} (hd : 9 ≤ d) (a b ti : Int32) (hq : q = 1 ∨ q = 2) (L : LQ (wq q w)) : CL g M_X8_best d 24 140 [.inr (q, some 0), .inl (.int a), .inl (.int b), .inl (.int ti)] w (cl_det (F_X8_best (wq q w) a b ti).1 (ws q w (wq q w))) :=
  lift hq (nums_c (nums_c (nums_c nums_n))) (nr_best _ _ _ _) L.2.2.1 L.2.2.2 (fun g' h' zx => by
    have z := (z_best zx a b ti).gz zx (gz_best _ a b ti)
    exact ⟨(F_X8_best h' a b ti).2, det_of (detP_to0 (c_X8_best hd (L.1.sr zx.1) a b ti) z.1), z.2, fun c _ => c.zx zx.symm⟩)
theorem nr_ride (h : Hp) (a b ti n ri wh : Int32) : numR (F_X8_ride h a b ti n ri wh).1 := by
  unfold F_X8_ride
  generalize F_X5_tell (F_X5_seek h a b ti n) n.toNatClampNeg = T
  repeat' split
  all_goals first | (intro v e; cases e; done) | (intro v e; cases e; exact ⟨_, rfl⟩)
theorem cl_ride {g : GT} {d q : Nat} {w : Wd} (hd : 9 ≤ d) (a b ti n ri wh : Int32) (hq : q = 1 ∨ q = 2) (L : LQ (wq q w)) : CL g M_X8_ride d 12 71 [.inr (q, some 0), .inl (.int a), .inl (.int b), .inl (.int ti), .inl (.int n), .inl (.int ri), .inl (.int wh)] w (cl_det (F_X8_ride (wq q w) a b ti n ri wh).1 (ws q w (wq q w))) :=
  lift hq (nums_c (nums_c (nums_c (nums_c (nums_c (nums_c nums_n)))))) (nr_ride _ _ _ _ _ _ _) L.2.2.1 L.2.2.2 (fun g' h' zx => by
    have z := (z_ride zx a b ti n ri wh).gz zx (gz_ride _ a b ti n ri wh)
    exact ⟨(F_X8_ride h' a b ti n ri wh).2, det_of (detP_to0 (c_X8_ride hd (L.1.sr zx.1) a b ti n ri wh) z.1), z.2, fun c _ => c.zx zx.symm⟩)
theorem nr_journey (h : Hp) (a b ti n wh : Int32) : numR (F_X8_journey h a b ti n wh).1 := by
  unfold F_X8_journey
  generalize F_X5_tell (F_X5_seek h a b ti n) n.toNatClampNeg = T
  repeat' split
  all_goals first | (intro v e; cases e; done) | (intro v e; cases e; exact ⟨_, rfl⟩)
theorem cl_journey {g : GT} {d q : Nat} {w : Wd} (hd : 9 ≤ d) (a b ti n wh : Int32) (hq : q = 1 ∨ q = 2) (hw : wh = 0 ∨ wh = 1 ∨ wh = 2 ∨ ¬ okR wh 0 3) (L : LQ (wq q w)) : CL g M_X8_journey d 11 65 [.inr (q, some 0), .inl (.int a), .inl (.int b), .inl (.int ti), .inl (.int n), .inl (.int wh)] w (cl_det (F_X8_journey (wq q w) a b ti n wh).1 (ws q w (wq q w))) :=
  lift hq (nums_c (nums_c (nums_c (nums_c (nums_c nums_n))))) (nr_journey _ _ _ _ _ _) L.2.2.1 L.2.2.2 (fun g' h' zx => by
    have z := (z_journey zx a b ti n wh).gz zx (gz_journey _ a b ti n wh hw)
    exact ⟨(F_X8_journey h' a b ti n wh).2, det_of (detP_to0 (c_X8_journey hd (L.1.sr zx.1) a b ti n wh) z.1), z.2, fun c _ => c.zx zx.symm⟩)
theorem nr_book (h : Hp) (a b ti n : Int32) : numR (F_X8_book h a b ti n).1 := by
  unfold F_X8_book
  generalize F_X5_tell (F_X5_seek h a b ti n) n.toNatClampNeg = T
  repeat' split
  all_goals first | (intro v e; cases e; done) | (intro v e; cases e; exact ⟨_, rfl⟩)
theorem cl_book {g : GT} {d q : Nat} {w : Wd} (hd : 13 ≤ d) (a b ti n : Int32) (hq : q = 1 ∨ q = 2) (L : LQ (wq q w)) (hk : LQ (N_book (wq q w) a b ti n)) : CL g M_X8_book d 14 115 [.inr (q, some 0), .inl (.int a), .inl (.int b), .inl (.int ti), .inl (.int n)] w (cl_det (F_X8_book (wq q w) a b ti n).1 (ws q w (N_book (wq q w) a b ti n))) :=
  lift hq (nums_c (nums_c (nums_c (nums_c nums_n)))) (nr_book _ _ _ _ _) hk.2.2.1 hk.2.2.2 (fun g' h' zx => by
    have s := z_book zx a b ti n
    refine ⟨(F_X8_book h' a b ti n).2, ?_⟩
    have c := fun e => det_of (detP_to0 (c_X8_book (g := g') (d := d) hd (L.1.sr zx.1) a b ti n (L.2.1.sr zx.1)) (r1 := (F_X8_book (wq q w) a b ti n).1) e)
    rcases s with e | ⟨E, e1, e2⟩
    · refine ⟨c (by rw [e]), ?_⟩
      rw [e]
      unfold N_book
      cases e3 : (F_X8_book (wq q w) a b ti n).1 with
      | inl v => exact ⟨GZ.rf, fun _ c => c⟩
      | inr E => exact ⟨gz_book _ _ _ _ _ e3, fun c _ => c.zx zx.symm⟩
    · refine ⟨c (by rw [e1, e2]), ?_⟩
      unfold N_book
      rw [e1, e2]
      exact ⟨zx.gz, fun c _ => c.zx zx.symm⟩)
