/-! ===== own: one call, asked of one object, or of both ===== -/
theorem sr_stop (h : Hp) (x : Int32) : SR h (F_X8_stop h x).2 := by
  unfold F_X8_stop F_X3_addStop
  repeat' split
  all_goals exact ⟨rfl, rfl⟩
theorem sr_footway (h : Hp) (a b mi : Int32) : SR h (F_X8_footway h a b mi).2 := by
  unfold F_X8_footway F_X3_setWalk
  repeat' split
  all_goals exact ⟨rfl, rfl⟩
theorem sr_calls (h : Hp) (t s ri wa : Int32) : SR h (F_X8_calls h t s ri wa).2 := by
  unfold F_X8_calls F_X7_goOn
  repeat' split
  all_goals exact ⟨rfl, rfl⟩
theorem sr_runs (h : Hp) (t dy v : Int32) : SR h (F_X8_runs h t dy v).2 := by
  unfold F_X8_runs F_X7_setThere
  repeat' split
  all_goals exact ⟨rfl, rfl⟩
theorem sr_delay (h : Hp) (t dy mi : Int32) : SR h (F_X8_delay h t dy mi).2 := by
  unfold F_X8_delay
  repeat' split
  all_goals exact ⟨rfl, rfl⟩
theorem sr_note (h : Hp) (t mi : Int32) : SR h (F_X8_note h t mi).2 := by
  unfold F_X8_note
  repeat' split
  all_goals exact ⟨rfl, rfl⟩
theorem sr_prices (h : Hp) (f ba ce su : Int32) : SR h (F_X8_prices h f ba ce su).2 := by
  unfold F_X8_prices F_X1_setPrices
  repeat' split
  all_goals exact ⟨rfl, rfl⟩
theorem sr_buy (h : Hp) (x : Int32) : SR h (F_X8_buy h x).2 := by
  unfold F_X8_buy
  repeat' split
  all_goals exact ⟨rfl, rfl⟩
theorem sr_claim (h : Hp) (x : Int32) : SR h (F_X8_claim h x).2 := by
  unfold F_X8_claim
  repeat' split
  all_goals exact ⟨rfl, rfl⟩
theorem sr_pass (h : Hp) (x : Int32) : SR h (F_X8_pass h x).2 := by
  have key : ∀ (fu : Nat) (X : Hp) (dr : Int32) (i : Nat), SR h X → SR h (L_X8_pass_22 h x fu X dr i).2 := by
    intro fu
    induction fu with
    | zero => intro X dr i s; exact s
    | succ fu ih =>
      intro X dr i s
      rw [L_X8_pass_22_s]
      unfold B_X8_pass_22
      repeat' split
      · exact s
      · exact ih _ _ _ s
      · exact ih _ _ _ (s.trans ⟨rfl, rfl⟩)
      · exact ih _ _ _ s
  unfold F_X8_pass
  split
  · exact key _ _ _ _ ⟨rfl, rfl⟩
  · exact SR.rf
theorem sr_leaveAt0 (h X : Hp) (s ti : Int32) (y : SR h X) : SR h (F_X6_leaveAt0 X s ti) := by
  unfold F_X6_leaveAt0
  generalize (if s = xFI X 701 0 then (0 : Int32) else F_X3_walk X s (xFI X 701 0)) = mi
  split
  · exact y
  · exact y.trans ⟨rfl, rfl⟩
theorem sr_tryRun1 (h X : Hp) (t : Nat) (dy s ti tf : Int32) (y : SR h X) : SR h (F_X6_tryRun1 X t dy s ti tf) := by
  have key : ∀ (fu : Nat) (Y : Hp) (ab : Int32) (p : Nat), SR h Y → SR h (L_X6_tryRun1_6 X t dy s ti tf fu Y ab p) := by
    intro fu
    induction fu with
    | zero => intro Y ab p y; exact y
    | succ fu ih =>
      intro Y ab p y
      rw [L_X6_tryRun1_6_s]
      unfold B_X6_tryRun1_6
      split
      · exact y
      · split
        · exact ih _ _ _ y
        · exact ih _ _ _ (sr_leaveAt0 _ _ _ _ y)
  exact key _ _ _ _ y
theorem sr_goOn1 (h X : Hp) (s ti tf : Int32) (y : SR h X) : SR h (F_X6_goOn1 X s ti tf) := by
  have inner : ∀ (Z : Hp) (dy : Int32) (rec : Hp → Int32 → Hp), (∀ U d, SR h U → SR h (rec U d)) → ∀ (fu : Nat) (Y : Hp) (i : Nat), SR h Y → SR h (L_X6_goOn1_38 X s ti tf Z dy rec (K_X6_goOn1_38 X s ti tf Z dy rec) fu Y i) := by
    intro Z dy rec hr fu
    induction fu with
    | zero => intro Y i y; exact y
    | succ fu ih =>
      intro Y i y
      rw [L_X6_goOn1_38_s]
      unfold B_X6_goOn1_38
      split
      · exact hr _ _ y
      · split
        · exact ih _ _ y
        · split
          · exact ih _ _ y
          · split
            · exact ih _ _ y
            · exact ih _ _ (sr_tryRun1 _ _ _ _ _ _ _ y)
  have key : ∀ (fu : Nat) (Y : Hp) (dy : Int32), SR h Y → SR h (L_X6_goOn1_19 X s ti tf fu Y dy) := by
    intro fu
    induction fu with
    | zero => intro Y dy y; exact y
    | succ fu ih =>
      intro Y dy y
      rw [L_X6_goOn1_19_s]
      unfold B_X6_goOn1_19
      split
      · exact y
      · split
        · exact y
        · exact inner _ _ _ (fun U d z => ih U d z) _ _ _ y
  exact key _ _ _ y
theorem sr_leaveAt1 (h X : Hp) (s ti : Int32) (y : SR h X) : SR h (F_X6_leaveAt1 X s ti) := by
  unfold F_X6_leaveAt1
  split
  · exact y
  · exact sr_goOn1 _ _ _ _ _ y
theorem sr_tryRun2 (h X : Hp) (t : Nat) (dy s ti tf : Int32) (y : SR h X) : SR h (F_X6_tryRun2 X t dy s ti tf) := by
  have key : ∀ (fu : Nat) (Y : Hp) (ab : Int32) (p : Nat), SR h Y → SR h (L_X6_tryRun2_6 X t dy s ti tf fu Y ab p) := by
    intro fu
    induction fu with
    | zero => intro Y ab p y; exact y
    | succ fu ih =>
      intro Y ab p y
      rw [L_X6_tryRun2_6_s]
      unfold B_X6_tryRun2_6
      split
      · exact y
      · split
        · exact ih _ _ _ y
        · exact ih _ _ _ (sr_leaveAt1 _ _ _ _ y)
  exact key _ _ _ _ y
theorem sr_goOn2 (h X : Hp) (s ti tf : Int32) (y : SR h X) : SR h (F_X6_goOn2 X s ti tf) := by
  have inner : ∀ (Z : Hp) (dy : Int32) (rec : Hp → Int32 → Hp), (∀ U d, SR h U → SR h (rec U d)) → ∀ (fu : Nat) (Y : Hp) (i : Nat), SR h Y → SR h (L_X6_goOn2_38 X s ti tf Z dy rec (K_X6_goOn2_38 X s ti tf Z dy rec) fu Y i) := by
    intro Z dy rec hr fu
    induction fu with
    | zero => intro Y i y; exact y
    | succ fu ih =>
      intro Y i y
      rw [L_X6_goOn2_38_s]
      unfold B_X6_goOn2_38
      split
      · exact hr _ _ y
      · split
        · exact ih _ _ y
        · split
          · exact ih _ _ y
          · split
            · exact ih _ _ y
            · exact ih _ _ (sr_tryRun2 _ _ _ _ _ _ _ y)
  have key : ∀ (fu : Nat) (Y : Hp) (dy : Int32), SR h Y → SR h (L_X6_goOn2_19 X s ti tf fu Y dy) := by
    intro fu
    induction fu with
    | zero => intro Y dy y; exact y
    | succ fu ih =>
      intro Y dy y
      rw [L_X6_goOn2_19_s]
      unfold B_X6_goOn2_19
      split
      · exact y
      · split
        · exact y
        · exact inner _ _ _ (fun U d z => ih U d z) _ _ _ y
  exact key _ _ _ y
theorem sr_arrivalAnew (h : Hp) (a b ti n : Int32) : SR h (F_X8_arrivalAnew h a b ti n).2 := by
  have k : SR h (F_X6_tryAll h a b ti n).2 := by
    unfold F_X6_tryAll F_X6_tryAll1 F_X6_tryAll2
    split
    · exact sr_goOn1 _ _ _ _ _ ⟨rfl, rfl⟩
    · exact sr_goOn2 _ _ _ _ _ ⟨rfl, rfl⟩
  unfold F_X8_arrivalAnew
  repeat' split
  all_goals first | exact SR.rf | exact k
theorem wq_ws1 (w : Wd) (k : Hp) : wq 1 (ws 1 w k) = k := rfl
theorem ws_same {q : Nat} (hq : q = 1 ∨ q = 2) (w : Wd) : ws q w (wq q w) = w := by
  rcases hq with rfl | rfl <;> rfl
theorem nrw_01 (c : Int32) : narrow .boolean (.int (if c = 1 then 1 else 0)) = .int (if c = 1 then 1 else 0) := by split <;> rfl
theorem nmr {P : Prop} (p : P) : P := p
/-- what the law is told by stop, and what that leaves -/
def V_stop (h : Hp) (a : Int32) : Int32 := rsI (F_X8_stop h a).1
theorem k_stop {g : GT} {d q : Nat} {w : Wd} (hd : 15 ≤ d) (hq : q = 1 ∨ q = 2) (L : LQ (wq q w)) (a b c e : Int32) : CL g M_L_call d 2 12 [.inr (q, some 0), .inl (.int 0), .inl (.int a), .inl (.int b), .inl (.int c), .inl (.int e)] w (cl_det (.inl (some (.inl (.int (V_stop (wq q w) a))))) (ws q w (F_X8_stop (wq q w) a).2)) := by
  have hk := L.sr (sr_stop (wq q w) a)
  have s := (sp_stop (wq q w) a)
  exact c_L_call hd (s) (fun d' hd' => c_does_stop hd' hq s (fun d'' hd'' => cl_stop (by omega) a hq L.1 L.2.1 hk))
theorem b_stop {g : GT} {d : Nat} {h : Hp} {R : (Nat → Int32) × (Nat → Int32) × Nat} (hd : 16 ≤ d) (L : LQ h) (a b c e : Int32) : CL g M_L_both d 4 24 [.inr (1, some 0), .inr (2, some 0), .inl (.int 0), .inl (.int a), .inl (.int b), .inl (.int c), .inl (.int e)] (h, h, R) (cl_det (.inl (some (.inl (.int (V_stop h a))))) ((F_X8_stop h a).2, (F_X8_stop h a).2, R)) := by
  have k1 := fun (d' : Nat) (hd' : 15 ≤ d') => k_stop (g := g) (d := d') (q := 1) (w := (h, h, R)) hd' (.inl rfl) L a b c e
  have k2 := fun (d' : Nat) (hd' : 15 ≤ d') => k_stop (g := g) (d := d') (q := 2) (w := ((F_X8_stop h a).2, h, R)) hd' (.inr rfl) L a b c e
  have bb := c_L_both hd k1 k2
  exact detL_to bb (by show _ = Sum.inl (some (Sum.inl (Value.int (V_stop h a)))); exact congrArg (fun z => Sum.inl (some (Sum.inl (Value.int z)))) (if_pos rfl)) rfl
theorem a_stop {g : GT} {d : Nat} {h : Hp} {R : (Nat → Int32) × (Nat → Int32) × Nat} (hd : 15 ≤ d) (L : LQ h) (a b c e : Int32) (hn : (F_X8_stop h a).2 = h) : CL g M_L_call d 2 12 [.inr (1, some 0), .inl (.int 0), .inl (.int a), .inl (.int b), .inl (.int c), .inl (.int e)] (h, h, R) (cl_det (.inl (some (.inl (.int (V_stop h a))))) (h, h, R)) := detL_to (k_stop (g := g) (q := 1) (w := (h, h, R)) hd (.inl rfl) L a b c e) rfl (by show ((F_X8_stop h a).2, h, R) = (h, h, R); rw [hn])
/-- what the law is told by footway, and what that leaves -/
def V_footway (h : Hp) (a b c : Int32) : Int32 := rsI (F_X8_footway h a b c).1
theorem k_footway {g : GT} {d q : Nat} {w : Wd} (hd : 15 ≤ d) (hq : q = 1 ∨ q = 2) (L : LQ (wq q w)) (a b c e : Int32) : CL g M_L_call d 4 24 [.inr (q, some 0), .inl (.int 1), .inl (.int a), .inl (.int b), .inl (.int c), .inl (.int e)] w (cl_det (.inl (some (.inl (.int (V_footway (wq q w) a b c))))) (ws q w (F_X8_footway (wq q w) a b c).2)) := by
  have hk := L.sr (sr_footway (wq q w) a b c)
  have s := (sp_footway (wq q w) a b c)
  exact c_L_call hd (s) (fun d' hd' => c_does_footway hd' hq s (fun d'' hd'' => cl_footway (by omega) a b c hq L.1 L.2.1 hk))
theorem b_footway {g : GT} {d : Nat} {h : Hp} {R : (Nat → Int32) × (Nat → Int32) × Nat} (hd : 16 ≤ d) (L : LQ h) (a b c e : Int32) : CL g M_L_both d 8 48 [.inr (1, some 0), .inr (2, some 0), .inl (.int 1), .inl (.int a), .inl (.int b), .inl (.int c), .inl (.int e)] (h, h, R) (cl_det (.inl (some (.inl (.int (V_footway h a b c))))) ((F_X8_footway h a b c).2, (F_X8_footway h a b c).2, R)) := by
  have k1 := fun (d' : Nat) (hd' : 15 ≤ d') => k_footway (g := g) (d := d') (q := 1) (w := (h, h, R)) hd' (.inl rfl) L a b c e
  have k2 := fun (d' : Nat) (hd' : 15 ≤ d') => k_footway (g := g) (d := d') (q := 2) (w := ((F_X8_footway h a b c).2, h, R)) hd' (.inr rfl) L a b c e
  have bb := c_L_both hd k1 k2
  exact detL_to bb (by show _ = Sum.inl (some (Sum.inl (Value.int (V_footway h a b c)))); exact congrArg (fun z => Sum.inl (some (Sum.inl (Value.int z)))) (if_pos rfl)) rfl
theorem a_footway {g : GT} {d : Nat} {h : Hp} {R : (Nat → Int32) × (Nat → Int32) × Nat} (hd : 15 ≤ d) (L : LQ h) (a b c e : Int32) (hn : (F_X8_footway h a b c).2 = h) : CL g M_L_call d 4 24 [.inr (1, some 0), .inl (.int 1), .inl (.int a), .inl (.int b), .inl (.int c), .inl (.int e)] (h, h, R) (cl_det (.inl (some (.inl (.int (V_footway h a b c))))) (h, h, R)) := detL_to (k_footway (g := g) (q := 1) (w := (h, h, R)) hd (.inl rfl) L a b c e) rfl (by show ((F_X8_footway h a b c).2, h, R) = (h, h, R); rw [hn])
/-- what the law is told by calls, and what that leaves -/
def V_calls (h : Hp) (a b c e : Int32) : Int32 := rsI (F_X8_calls h a b c e).1
theorem k_calls {g : GT} {d q : Nat} {w : Wd} (hd : 15 ≤ d) (hq : q = 1 ∨ q = 2) (L : LQ (wq q w)) (a b c e : Int32) : CL g M_L_call d 5 30 [.inr (q, some 0), .inl (.int 2), .inl (.int a), .inl (.int b), .inl (.int c), .inl (.int e)] w (cl_det (.inl (some (.inl (.int (V_calls (wq q w) a b c e))))) (ws q w (F_X8_calls (wq q w) a b c e).2)) := by
  have hk := L.sr (sr_calls (wq q w) a b c e)
  have s := (sp_calls (wq q w) a b c e)
  exact c_L_call hd (s) (fun d' hd' => c_does_calls hd' hq s (fun d'' hd'' => cl_calls (by omega) a b c e hq L.1 L.2.1 hk))
theorem b_calls {g : GT} {d : Nat} {h : Hp} {R : (Nat → Int32) × (Nat → Int32) × Nat} (hd : 16 ≤ d) (L : LQ h) (a b c e : Int32) : CL g M_L_both d 10 60 [.inr (1, some 0), .inr (2, some 0), .inl (.int 2), .inl (.int a), .inl (.int b), .inl (.int c), .inl (.int e)] (h, h, R) (cl_det (.inl (some (.inl (.int (V_calls h a b c e))))) ((F_X8_calls h a b c e).2, (F_X8_calls h a b c e).2, R)) := by
  have k1 := fun (d' : Nat) (hd' : 15 ≤ d') => k_calls (g := g) (d := d') (q := 1) (w := (h, h, R)) hd' (.inl rfl) L a b c e
  have k2 := fun (d' : Nat) (hd' : 15 ≤ d') => k_calls (g := g) (d := d') (q := 2) (w := ((F_X8_calls h a b c e).2, h, R)) hd' (.inr rfl) L a b c e
  have bb := c_L_both hd k1 k2
  exact detL_to bb (by show _ = Sum.inl (some (Sum.inl (Value.int (V_calls h a b c e)))); exact congrArg (fun z => Sum.inl (some (Sum.inl (Value.int z)))) (if_pos rfl)) rfl
theorem a_calls {g : GT} {d : Nat} {h : Hp} {R : (Nat → Int32) × (Nat → Int32) × Nat} (hd : 15 ≤ d) (L : LQ h) (a b c e : Int32) (hn : (F_X8_calls h a b c e).2 = h) : CL g M_L_call d 5 30 [.inr (1, some 0), .inl (.int 2), .inl (.int a), .inl (.int b), .inl (.int c), .inl (.int e)] (h, h, R) (cl_det (.inl (some (.inl (.int (V_calls h a b c e))))) (h, h, R)) := detL_to (k_calls (g := g) (q := 1) (w := (h, h, R)) hd (.inl rfl) L a b c e) rfl (by show ((F_X8_calls h a b c e).2, h, R) = (h, h, R); rw [hn])
/-- what the law is told by runs, and what that leaves -/
def V_runs (h : Hp) (a b c : Int32) : Int32 := rsI (rD3 (F_X8_runs h a b (if c = 1 then 1 else 0)).1)
theorem k_runs {g : GT} {d q : Nat} {w : Wd} (hd : 15 ≤ d) (hq : q = 1 ∨ q = 2) (L : LQ (wq q w)) (a b c e : Int32) : CL g M_L_call d 2 12 [.inr (q, some 0), .inl (.int 3), .inl (.int a), .inl (.int b), .inl (.int c), .inl (.int e)] w (cl_det (.inl (some (.inl (.int (V_runs (wq q w) a b c))))) (ws q w (F_X8_runs (wq q w) a b (if c = 1 then 1 else 0)).2)) := by
  have hk := L.sr (sr_runs (wq q w) a b (if c = 1 then 1 else 0))
  have s := (sp_runs (wq q w) a b (if c = 1 then 1 else 0))
  exact c_L_call hd ((by rcases s with ⟨v, e⟩ | e | e | e <;> rw [e]; exact .inl ⟨_, rfl⟩; exact .inr (.inl rfl); exact .inr (.inr (.inl rfl)); exact .inr (.inr (.inr rfl)))) (fun d' hd' => c_does_runs hd' hq s (fun d'' hd'' => cl_runs (by omega) a b (if c = 1 then 1 else 0) hq L.1 L.2.1 hk (nrw_01 c)))
theorem b_runs {g : GT} {d : Nat} {h : Hp} {R : (Nat → Int32) × (Nat → Int32) × Nat} (hd : 16 ≤ d) (L : LQ h) (a b c e : Int32) : CL g M_L_both d 4 24 [.inr (1, some 0), .inr (2, some 0), .inl (.int 3), .inl (.int a), .inl (.int b), .inl (.int c), .inl (.int e)] (h, h, R) (cl_det (.inl (some (.inl (.int (V_runs h a b c))))) ((F_X8_runs h a b (if c = 1 then 1 else 0)).2, (F_X8_runs h a b (if c = 1 then 1 else 0)).2, R)) := by
  have k1 := fun (d' : Nat) (hd' : 15 ≤ d') => k_runs (g := g) (d := d') (q := 1) (w := (h, h, R)) hd' (.inl rfl) L a b c e
  have k2 := fun (d' : Nat) (hd' : 15 ≤ d') => k_runs (g := g) (d := d') (q := 2) (w := ((F_X8_runs h a b (if c = 1 then 1 else 0)).2, h, R)) hd' (.inr rfl) L a b c e
  have bb := c_L_both hd k1 k2
  exact detL_to bb (by show _ = Sum.inl (some (Sum.inl (Value.int (V_runs h a b c)))); exact congrArg (fun z => Sum.inl (some (Sum.inl (Value.int z)))) (if_pos rfl)) rfl
theorem a_runs {g : GT} {d : Nat} {h : Hp} {R : (Nat → Int32) × (Nat → Int32) × Nat} (hd : 15 ≤ d) (L : LQ h) (a b c e : Int32) (hn : (F_X8_runs h a b (if c = 1 then 1 else 0)).2 = h) : CL g M_L_call d 2 12 [.inr (1, some 0), .inl (.int 3), .inl (.int a), .inl (.int b), .inl (.int c), .inl (.int e)] (h, h, R) (cl_det (.inl (some (.inl (.int (V_runs h a b c))))) (h, h, R)) := detL_to (k_runs (g := g) (q := 1) (w := (h, h, R)) hd (.inl rfl) L a b c e) rfl (by show ((F_X8_runs h a b (if c = 1 then 1 else 0)).2, h, R) = (h, h, R); rw [hn])
/-- what the law is told by delay, and what that leaves -/
def V_delay (h : Hp) (a b c : Int32) : Int32 := rsI (F_X8_delay h a b c).1
theorem k_delay {g : GT} {d q : Nat} {w : Wd} (hd : 15 ≤ d) (hq : q = 1 ∨ q = 2) (L : LQ (wq q w)) (a b c e : Int32) : CL g M_L_call d 3 18 [.inr (q, some 0), .inl (.int 4), .inl (.int a), .inl (.int b), .inl (.int c), .inl (.int e)] w (cl_det (.inl (some (.inl (.int (V_delay (wq q w) a b c))))) (ws q w (F_X8_delay (wq q w) a b c).2)) := by
  have hk := L.sr (sr_delay (wq q w) a b c)
  have s := (sp_delay (wq q w) a b c)
  exact c_L_call hd (s) (fun d' hd' => c_does_delay hd' hq s (fun d'' hd'' => cl_delay (by omega) a b c hq L.1 L.2.1 hk))
theorem b_delay {g : GT} {d : Nat} {h : Hp} {R : (Nat → Int32) × (Nat → Int32) × Nat} (hd : 16 ≤ d) (L : LQ h) (a b c e : Int32) : CL g M_L_both d 6 36 [.inr (1, some 0), .inr (2, some 0), .inl (.int 4), .inl (.int a), .inl (.int b), .inl (.int c), .inl (.int e)] (h, h, R) (cl_det (.inl (some (.inl (.int (V_delay h a b c))))) ((F_X8_delay h a b c).2, (F_X8_delay h a b c).2, R)) := by
  have k1 := fun (d' : Nat) (hd' : 15 ≤ d') => k_delay (g := g) (d := d') (q := 1) (w := (h, h, R)) hd' (.inl rfl) L a b c e
  have k2 := fun (d' : Nat) (hd' : 15 ≤ d') => k_delay (g := g) (d := d') (q := 2) (w := ((F_X8_delay h a b c).2, h, R)) hd' (.inr rfl) L a b c e
  have bb := c_L_both hd k1 k2
  exact detL_to bb (by show _ = Sum.inl (some (Sum.inl (Value.int (V_delay h a b c)))); exact congrArg (fun z => Sum.inl (some (Sum.inl (Value.int z)))) (if_pos rfl)) rfl
theorem a_delay {g : GT} {d : Nat} {h : Hp} {R : (Nat → Int32) × (Nat → Int32) × Nat} (hd : 15 ≤ d) (L : LQ h) (a b c e : Int32) (hn : (F_X8_delay h a b c).2 = h) : CL g M_L_call d 3 18 [.inr (1, some 0), .inl (.int 4), .inl (.int a), .inl (.int b), .inl (.int c), .inl (.int e)] (h, h, R) (cl_det (.inl (some (.inl (.int (V_delay h a b c))))) (h, h, R)) := detL_to (k_delay (g := g) (q := 1) (w := (h, h, R)) hd (.inl rfl) L a b c e) rfl (by show ((F_X8_delay h a b c).2, h, R) = (h, h, R); rw [hn])
/-- what the law is told by note, and what that leaves -/
def V_note (h : Hp) (a b : Int32) : Int32 := rsI (F_X8_note h a b).1
theorem k_note {g : GT} {d q : Nat} {w : Wd} (hd : 15 ≤ d) (hq : q = 1 ∨ q = 2) (L : LQ (wq q w)) (a b c e : Int32) : CL g M_L_call d 3 18 [.inr (q, some 0), .inl (.int 5), .inl (.int a), .inl (.int b), .inl (.int c), .inl (.int e)] w (cl_det (.inl (some (.inl (.int (V_note (wq q w) a b))))) (ws q w (F_X8_note (wq q w) a b).2)) := by
  have hk := L.sr (sr_note (wq q w) a b)
  have s := (sp_note (wq q w) a b)
  exact c_L_call hd (s) (fun d' hd' => c_does_note hd' hq s (fun d'' hd'' => cl_note (by omega) a b hq L.1 L.2.1 hk))
theorem b_note {g : GT} {d : Nat} {h : Hp} {R : (Nat → Int32) × (Nat → Int32) × Nat} (hd : 16 ≤ d) (L : LQ h) (a b c e : Int32) : CL g M_L_both d 6 36 [.inr (1, some 0), .inr (2, some 0), .inl (.int 5), .inl (.int a), .inl (.int b), .inl (.int c), .inl (.int e)] (h, h, R) (cl_det (.inl (some (.inl (.int (V_note h a b))))) ((F_X8_note h a b).2, (F_X8_note h a b).2, R)) := by
  have k1 := fun (d' : Nat) (hd' : 15 ≤ d') => k_note (g := g) (d := d') (q := 1) (w := (h, h, R)) hd' (.inl rfl) L a b c e
  have k2 := fun (d' : Nat) (hd' : 15 ≤ d') => k_note (g := g) (d := d') (q := 2) (w := ((F_X8_note h a b).2, h, R)) hd' (.inr rfl) L a b c e
  have bb := c_L_both hd k1 k2
  exact detL_to bb (by show _ = Sum.inl (some (Sum.inl (Value.int (V_note h a b)))); exact congrArg (fun z => Sum.inl (some (Sum.inl (Value.int z)))) (if_pos rfl)) rfl
theorem a_note {g : GT} {d : Nat} {h : Hp} {R : (Nat → Int32) × (Nat → Int32) × Nat} (hd : 15 ≤ d) (L : LQ h) (a b c e : Int32) (hn : (F_X8_note h a b).2 = h) : CL g M_L_call d 3 18 [.inr (1, some 0), .inl (.int 5), .inl (.int a), .inl (.int b), .inl (.int c), .inl (.int e)] (h, h, R) (cl_det (.inl (some (.inl (.int (V_note h a b))))) (h, h, R)) := detL_to (k_note (g := g) (q := 1) (w := (h, h, R)) hd (.inl rfl) L a b c e) rfl (by show ((F_X8_note h a b).2, h, R) = (h, h, R); rw [hn])
theorem sp6 (h : Hp) (f ba ce su : Int32) : rP6 (F_X8_prices h f ba ce su).1 := by
  unfold F_X8_prices
  repeat' split
  all_goals first | exact .inl rfl | exact .inr (.inl rfl) | exact .inr (.inr rfl)
/-- what the law is told by prices, and what that leaves -/
def V_prices (h : Hp) (a b c e : Int32) : Int32 := rsI (rD6 (F_X8_prices h a b c e).1)
theorem k_prices {g : GT} {d q : Nat} {w : Wd} (hd : 15 ≤ d) (hq : q = 1 ∨ q = 2) (L : LQ (wq q w)) (a b c e : Int32) : CL g M_L_call d 4 24 [.inr (q, some 0), .inl (.int 6), .inl (.int a), .inl (.int b), .inl (.int c), .inl (.int e)] w (cl_det (.inl (some (.inl (.int (V_prices (wq q w) a b c e))))) (ws q w (F_X8_prices (wq q w) a b c e).2)) := by
  have hk := L.sr (sr_prices (wq q w) a b c e)
  have s := (sp6 (wq q w) a b c e)
  exact c_L_call hd ((by rcases s with e | e | e <;> rw [e]; exact .inl ⟨_, rfl⟩; exact .inr (.inl rfl); exact .inr (.inr (.inr rfl)))) (fun d' hd' => c_does_prices hd' hq s (fun d'' hd'' => cl_prices (by omega) a b c e hq L.1 L.2.1 hk))
theorem b_prices {g : GT} {d : Nat} {h : Hp} {R : (Nat → Int32) × (Nat → Int32) × Nat} (hd : 16 ≤ d) (L : LQ h) (a b c e : Int32) : CL g M_L_both d 8 48 [.inr (1, some 0), .inr (2, some 0), .inl (.int 6), .inl (.int a), .inl (.int b), .inl (.int c), .inl (.int e)] (h, h, R) (cl_det (.inl (some (.inl (.int (V_prices h a b c e))))) ((F_X8_prices h a b c e).2, (F_X8_prices h a b c e).2, R)) := by
  have k1 := fun (d' : Nat) (hd' : 15 ≤ d') => k_prices (g := g) (d := d') (q := 1) (w := (h, h, R)) hd' (.inl rfl) L a b c e
  have k2 := fun (d' : Nat) (hd' : 15 ≤ d') => k_prices (g := g) (d := d') (q := 2) (w := ((F_X8_prices h a b c e).2, h, R)) hd' (.inr rfl) L a b c e
  have bb := c_L_both hd k1 k2
  exact detL_to bb (by show _ = Sum.inl (some (Sum.inl (Value.int (V_prices h a b c e)))); exact congrArg (fun z => Sum.inl (some (Sum.inl (Value.int z)))) (if_pos rfl)) rfl
theorem a_prices {g : GT} {d : Nat} {h : Hp} {R : (Nat → Int32) × (Nat → Int32) × Nat} (hd : 15 ≤ d) (L : LQ h) (a b c e : Int32) (hn : (F_X8_prices h a b c e).2 = h) : CL g M_L_call d 4 24 [.inr (1, some 0), .inl (.int 6), .inl (.int a), .inl (.int b), .inl (.int c), .inl (.int e)] (h, h, R) (cl_det (.inl (some (.inl (.int (V_prices h a b c e))))) (h, h, R)) := detL_to (k_prices (g := g) (q := 1) (w := (h, h, R)) hd (.inl rfl) L a b c e) rfl (by show ((F_X8_prices h a b c e).2, h, R) = (h, h, R); rw [hn])
/-- what the law is told by arrival, and what that leaves -/
def V_arrival (h : Hp) (a b c e : Int32) : Int32 := rsI (F_X8_arrival h a b c e).1
theorem k_arrival {g : GT} {d q : Nat} {w : Wd} (hd : 15 ≤ d) (hq : q = 1 ∨ q = 2) (L : LQ (wq q w)) (a b c e : Int32) : CL g M_L_call d 5 30 [.inr (q, some 0), .inl (.int 7), .inl (.int a), .inl (.int b), .inl (.int c), .inl (.int e)] w (cl_det (.inl (some (.inl (.int (V_arrival (wq q w) a b c e))))) (ws q w (wq q w))) := by
  have s := (sp_arrival (wq q w) a b c e)
  exact c_L_call hd (s) (fun d' hd' => c_does_arrival hd' hq s (fun d'' hd'' => cl_arrival (by omega) a b c e hq L))
theorem b_arrival {g : GT} {d : Nat} {h : Hp} {R : (Nat → Int32) × (Nat → Int32) × Nat} (hd : 16 ≤ d) (L : LQ h) (a b c e : Int32) : CL g M_L_both d 10 60 [.inr (1, some 0), .inr (2, some 0), .inl (.int 7), .inl (.int a), .inl (.int b), .inl (.int c), .inl (.int e)] (h, h, R) (cl_det (.inl (some (.inl (.int (V_arrival h a b c e))))) (h, h, R)) := by
  have k1 := fun (d' : Nat) (hd' : 15 ≤ d') => k_arrival (g := g) (d := d') (q := 1) (w := (h, h, R)) hd' (.inl rfl) L a b c e
  have k2 := fun (d' : Nat) (hd' : 15 ≤ d') => k_arrival (g := g) (d := d') (q := 2) (w := (h, h, R)) hd' (.inr rfl) L a b c e
  have bb := c_L_both hd k1 k2
  exact detL_to bb (by show _ = Sum.inl (some (Sum.inl (Value.int (V_arrival h a b c e)))); exact congrArg (fun z => Sum.inl (some (Sum.inl (Value.int z)))) (if_pos rfl)) rfl
theorem a_arrival {g : GT} {d : Nat} {h : Hp} {R : (Nat → Int32) × (Nat → Int32) × Nat} (hd : 15 ≤ d) (L : LQ h) (a b c e : Int32) : CL g M_L_call d 5 30 [.inr (1, some 0), .inl (.int 7), .inl (.int a), .inl (.int b), .inl (.int c), .inl (.int e)] (h, h, R) (cl_det (.inl (some (.inl (.int (V_arrival h a b c e))))) (h, h, R)) := k_arrival (g := g) (q := 1) (w := (h, h, R)) hd (.inl rfl) L a b c e
/-- what the law is told by arrivalAnew, and what that leaves -/
def V_arrivalAnew (h : Hp) (a b c e : Int32) : Int32 := rsI (F_X8_arrivalAnew h a b c e).1
theorem k_arrivalAnew {g : GT} {d q : Nat} {w : Wd} (hd : 15 ≤ d) (hq : q = 1 ∨ q = 2) (L : LQ (wq q w)) (a b c e : Int32) : CL g M_L_call d 5 30 [.inr (q, some 0), .inl (.int 8), .inl (.int a), .inl (.int b), .inl (.int c), .inl (.int e)] w (cl_det (.inl (some (.inl (.int (V_arrivalAnew (wq q w) a b c e))))) (ws q w (F_X8_arrivalAnew (wq q w) a b c e).2)) := by
  have hk := L.sr (sr_arrivalAnew (wq q w) a b c e)
  have s := (sp_arrivalAnew (wq q w) a b c e)
  exact c_L_call hd (s) (fun d' hd' => c_does_arrivalAnew hd' hq s (fun d'' hd'' => cl_arrivalAnew (by omega) a b c e hq L.1 L.2.1 hk))
theorem b_arrivalAnew {g : GT} {d : Nat} {h : Hp} {R : (Nat → Int32) × (Nat → Int32) × Nat} (hd : 16 ≤ d) (L : LQ h) (a b c e : Int32) : CL g M_L_both d 10 60 [.inr (1, some 0), .inr (2, some 0), .inl (.int 8), .inl (.int a), .inl (.int b), .inl (.int c), .inl (.int e)] (h, h, R) (cl_det (.inl (some (.inl (.int (V_arrivalAnew h a b c e))))) ((F_X8_arrivalAnew h a b c e).2, (F_X8_arrivalAnew h a b c e).2, R)) := by
  have k1 := fun (d' : Nat) (hd' : 15 ≤ d') => k_arrivalAnew (g := g) (d := d') (q := 1) (w := (h, h, R)) hd' (.inl rfl) L a b c e
  have k2 := fun (d' : Nat) (hd' : 15 ≤ d') => k_arrivalAnew (g := g) (d := d') (q := 2) (w := ((F_X8_arrivalAnew h a b c e).2, h, R)) hd' (.inr rfl) L a b c e
  have bb := c_L_both hd k1 k2
  exact detL_to bb (by show _ = Sum.inl (some (Sum.inl (Value.int (V_arrivalAnew h a b c e)))); exact congrArg (fun z => Sum.inl (some (Sum.inl (Value.int z)))) (if_pos rfl)) rfl
theorem a_arrivalAnew {g : GT} {d : Nat} {h : Hp} {R : (Nat → Int32) × (Nat → Int32) × Nat} (hd : 15 ≤ d) (L : LQ h) (a b c e : Int32) (hn : (F_X8_arrivalAnew h a b c e).2 = h) : CL g M_L_call d 5 30 [.inr (1, some 0), .inl (.int 8), .inl (.int a), .inl (.int b), .inl (.int c), .inl (.int e)] (h, h, R) (cl_det (.inl (some (.inl (.int (V_arrivalAnew h a b c e))))) (h, h, R)) := detL_to (k_arrivalAnew (g := g) (q := 1) (w := (h, h, R)) hd (.inl rfl) L a b c e) rfl (by show ((F_X8_arrivalAnew h a b c e).2, h, R) = (h, h, R); rw [hn])
/-- what the law is told by front, and what that leaves -/
def V_front (h : Hp) (a b c : Int32) : Int32 := rsI (F_X8_front h a b c).1
theorem k_front {g : GT} {d q : Nat} {w : Wd} (hd : 15 ≤ d) (hq : q = 1 ∨ q = 2) (L : LQ (wq q w)) (a b c e : Int32) : CL g M_L_call d 4 24 [.inr (q, some 0), .inl (.int 9), .inl (.int a), .inl (.int b), .inl (.int c), .inl (.int e)] w (cl_det (.inl (some (.inl (.int (V_front (wq q w) a b c))))) (ws q w (wq q w))) := by
  have s := (sp_front (wq q w) a b c)
  exact c_L_call hd (s) (fun d' hd' => c_does_front hd' hq s (fun d'' hd'' => cl_front (by omega) a b c hq L))
theorem b_front {g : GT} {d : Nat} {h : Hp} {R : (Nat → Int32) × (Nat → Int32) × Nat} (hd : 16 ≤ d) (L : LQ h) (a b c e : Int32) : CL g M_L_both d 8 48 [.inr (1, some 0), .inr (2, some 0), .inl (.int 9), .inl (.int a), .inl (.int b), .inl (.int c), .inl (.int e)] (h, h, R) (cl_det (.inl (some (.inl (.int (V_front h a b c))))) (h, h, R)) := by
  have k1 := fun (d' : Nat) (hd' : 15 ≤ d') => k_front (g := g) (d := d') (q := 1) (w := (h, h, R)) hd' (.inl rfl) L a b c e
  have k2 := fun (d' : Nat) (hd' : 15 ≤ d') => k_front (g := g) (d := d') (q := 2) (w := (h, h, R)) hd' (.inr rfl) L a b c e
  have bb := c_L_both hd k1 k2
  exact detL_to bb (by show _ = Sum.inl (some (Sum.inl (Value.int (V_front h a b c)))); exact congrArg (fun z => Sum.inl (some (Sum.inl (Value.int z)))) (if_pos rfl)) rfl
theorem a_front {g : GT} {d : Nat} {h : Hp} {R : (Nat → Int32) × (Nat → Int32) × Nat} (hd : 15 ≤ d) (L : LQ h) (a b c e : Int32) : CL g M_L_call d 4 24 [.inr (1, some 0), .inl (.int 9), .inl (.int a), .inl (.int b), .inl (.int c), .inl (.int e)] (h, h, R) (cl_det (.inl (some (.inl (.int (V_front h a b c))))) (h, h, R)) := k_front (g := g) (q := 1) (w := (h, h, R)) hd (.inl rfl) L a b c e
/-- what the law is told by best, and what that leaves -/
def V_best (h : Hp) (a b c : Int32) : Int32 := rsI (F_X8_best h a b c).1
theorem k_best {g : GT} {d q : Nat} {w : Wd} (hd : 15 ≤ d) (hq : q = 1 ∨ q = 2) (L : LQ (wq q w)) (a b c e : Int32) : CL g M_L_call d 24 140 [.inr (q, some 0), .inl (.int 10), .inl (.int a), .inl (.int b), .inl (.int c), .inl (.int e)] w (cl_det (.inl (some (.inl (.int (V_best (wq q w) a b c))))) (ws q w (wq q w))) := by
  have s := (sp_best (wq q w) a b c)
  exact c_L_call hd (s) (fun d' hd' => c_does_best hd' hq s (fun d'' hd'' => cl_best (by omega) a b c hq L))
theorem b_best {g : GT} {d : Nat} {h : Hp} {R : (Nat → Int32) × (Nat → Int32) × Nat} (hd : 16 ≤ d) (L : LQ h) (a b c e : Int32) : CL g M_L_both d 48 280 [.inr (1, some 0), .inr (2, some 0), .inl (.int 10), .inl (.int a), .inl (.int b), .inl (.int c), .inl (.int e)] (h, h, R) (cl_det (.inl (some (.inl (.int (V_best h a b c))))) (h, h, R)) := by
  have k1 := fun (d' : Nat) (hd' : 15 ≤ d') => k_best (g := g) (d := d') (q := 1) (w := (h, h, R)) hd' (.inl rfl) L a b c e
  have k2 := fun (d' : Nat) (hd' : 15 ≤ d') => k_best (g := g) (d := d') (q := 2) (w := (h, h, R)) hd' (.inr rfl) L a b c e
  have bb := c_L_both hd k1 k2
  exact detL_to bb (by show _ = Sum.inl (some (Sum.inl (Value.int (V_best h a b c)))); exact congrArg (fun z => Sum.inl (some (Sum.inl (Value.int z)))) (if_pos rfl)) rfl
theorem a_best {g : GT} {d : Nat} {h : Hp} {R : (Nat → Int32) × (Nat → Int32) × Nat} (hd : 15 ≤ d) (L : LQ h) (a b c e : Int32) : CL g M_L_call d 24 140 [.inr (1, some 0), .inl (.int 10), .inl (.int a), .inl (.int b), .inl (.int c), .inl (.int e)] (h, h, R) (cl_det (.inl (some (.inl (.int (V_best h a b c))))) (h, h, R)) := k_best (g := g) (q := 1) (w := (h, h, R)) hd (.inl rfl) L a b c e
/-- what the law is told by book, and what that leaves -/
def V_book (h : Hp) (a b c e : Int32) : Int32 := rsI (F_X8_book h a b c e).1
theorem k_book {g : GT} {d q : Nat} {w : Wd} (hd : 15 ≤ d) (hq : q = 1 ∨ q = 2) (L : LQ (wq q w)) (a b c e : Int32) (hk : LQ (N_book (wq q w) a b c e)) : CL g M_L_call d 14 115 [.inr (q, some 0), .inl (.int 11), .inl (.int a), .inl (.int b), .inl (.int c), .inl (.int e)] w (cl_det (.inl (some (.inl (.int (V_book (wq q w) a b c e))))) (ws q w (N_book (wq q w) a b c e))) := by
  have s := (sp_book (wq q w) a b c e)
  exact c_L_call hd (s) (fun d' hd' => c_does_book hd' hq s (fun d'' hd'' => cl_book (by omega) a b c e hq L hk))
theorem b_book {g : GT} {d : Nat} {h : Hp} {R : (Nat → Int32) × (Nat → Int32) × Nat} (hd : 16 ≤ d) (L : LQ h) (a b c e : Int32) (hk : LQ (N_book h a b c e)) : CL g M_L_both d 28 230 [.inr (1, some 0), .inr (2, some 0), .inl (.int 11), .inl (.int a), .inl (.int b), .inl (.int c), .inl (.int e)] (h, h, R) (cl_det (.inl (some (.inl (.int (V_book h a b c e))))) ((N_book h a b c e), (N_book h a b c e), R)) := by
  have k1 := fun (d' : Nat) (hd' : 15 ≤ d') => k_book (g := g) (d := d') (q := 1) (w := (h, h, R)) hd' (.inl rfl) L a b c e hk
  have k2 := fun (d' : Nat) (hd' : 15 ≤ d') => k_book (g := g) (d := d') (q := 2) (w := ((N_book h a b c e), h, R)) hd' (.inr rfl) L a b c e hk
  have bb := c_L_both hd k1 k2
  exact detL_to bb (by show _ = Sum.inl (some (Sum.inl (Value.int (V_book h a b c e)))); exact congrArg (fun z => Sum.inl (some (Sum.inl (Value.int z)))) (if_pos rfl)) rfl
theorem a_book {g : GT} {d : Nat} {h : Hp} {R : (Nat → Int32) × (Nat → Int32) × Nat} (hd : 15 ≤ d) (L : LQ h) (a b c e : Int32) (hn : (N_book h a b c e) = h) : CL g M_L_call d 14 115 [.inr (1, some 0), .inl (.int 11), .inl (.int a), .inl (.int b), .inl (.int c), .inl (.int e)] (h, h, R) (cl_det (.inl (some (.inl (.int (V_book h a b c e))))) (h, h, R)) := detL_to (k_book (g := g) (q := 1) (w := (h, h, R)) hd (.inl rfl) L a b c e (by show LQ (N_book h a b c e); rw [hn]; exact L)) rfl (by show ((N_book h a b c e), h, R) = (h, h, R); rw [hn])
/-- what the law is told by buy, and what that leaves -/
def V_buy (h : Hp) (a : Int32) : Int32 := rsI (F_X8_buy h a).1
theorem k_buy {g : GT} {d q : Nat} {w : Wd} (hd : 15 ≤ d) (hq : q = 1 ∨ q = 2) (L : LQ (wq q w)) (a b c e : Int32) : CL g M_L_call d 2 12 [.inr (q, some 0), .inl (.int 12), .inl (.int a), .inl (.int b), .inl (.int c), .inl (.int e)] w (cl_det (.inl (some (.inl (.int (V_buy (wq q w) a))))) (ws q w (F_X8_buy (wq q w) a).2)) := by
  have hk := L.sr (sr_buy (wq q w) a)
  have s := (sp_buy (wq q w) a)
  exact c_L_call hd (s) (fun d' hd' => c_does_buy hd' hq s (fun d'' hd'' => cl_buy (by omega) a hq L.1 L.2.1 hk))
theorem b_buy {g : GT} {d : Nat} {h : Hp} {R : (Nat → Int32) × (Nat → Int32) × Nat} (hd : 16 ≤ d) (L : LQ h) (a b c e : Int32) : CL g M_L_both d 4 24 [.inr (1, some 0), .inr (2, some 0), .inl (.int 12), .inl (.int a), .inl (.int b), .inl (.int c), .inl (.int e)] (h, h, R) (cl_det (.inl (some (.inl (.int (V_buy h a))))) ((F_X8_buy h a).2, (F_X8_buy h a).2, R)) := by
  have k1 := fun (d' : Nat) (hd' : 15 ≤ d') => k_buy (g := g) (d := d') (q := 1) (w := (h, h, R)) hd' (.inl rfl) L a b c e
  have k2 := fun (d' : Nat) (hd' : 15 ≤ d') => k_buy (g := g) (d := d') (q := 2) (w := ((F_X8_buy h a).2, h, R)) hd' (.inr rfl) L a b c e
  have bb := c_L_both hd k1 k2
  exact detL_to bb (by show _ = Sum.inl (some (Sum.inl (Value.int (V_buy h a)))); exact congrArg (fun z => Sum.inl (some (Sum.inl (Value.int z)))) (if_pos rfl)) rfl
theorem a_buy {g : GT} {d : Nat} {h : Hp} {R : (Nat → Int32) × (Nat → Int32) × Nat} (hd : 15 ≤ d) (L : LQ h) (a b c e : Int32) (hn : (F_X8_buy h a).2 = h) : CL g M_L_call d 2 12 [.inr (1, some 0), .inl (.int 12), .inl (.int a), .inl (.int b), .inl (.int c), .inl (.int e)] (h, h, R) (cl_det (.inl (some (.inl (.int (V_buy h a))))) (h, h, R)) := detL_to (k_buy (g := g) (q := 1) (w := (h, h, R)) hd (.inl rfl) L a b c e) rfl (by show ((F_X8_buy h a).2, h, R) = (h, h, R); rw [hn])
/-- what the law is told by right, and what that leaves -/
def V_right (h : Hp) (a : Int32) : Int32 := rsI (F_X8_right h a)
theorem k_right {g : GT} {d q : Nat} {w : Wd} (hd : 15 ≤ d) (hq : q = 1 ∨ q = 2) (L : LQ (wq q w)) (a b c e : Int32) : CL g M_L_call d 1 6 [.inr (q, some 0), .inl (.int 13), .inl (.int a), .inl (.int b), .inl (.int c), .inl (.int e)] w (cl_det (.inl (some (.inl (.int (V_right (wq q w) a))))) (ws q w (wq q w))) := by
  have s := (sp_right (wq q w) a)
  exact c_L_call hd (s) (fun d' hd' => c_does_right hd' hq s (fun d'' hd'' => cl_right (by omega) a hq L))
theorem b_right {g : GT} {d : Nat} {h : Hp} {R : (Nat → Int32) × (Nat → Int32) × Nat} (hd : 16 ≤ d) (L : LQ h) (a b c e : Int32) : CL g M_L_both d 2 12 [.inr (1, some 0), .inr (2, some 0), .inl (.int 13), .inl (.int a), .inl (.int b), .inl (.int c), .inl (.int e)] (h, h, R) (cl_det (.inl (some (.inl (.int (V_right h a))))) (h, h, R)) := by
  have k1 := fun (d' : Nat) (hd' : 15 ≤ d') => k_right (g := g) (d := d') (q := 1) (w := (h, h, R)) hd' (.inl rfl) L a b c e
  have k2 := fun (d' : Nat) (hd' : 15 ≤ d') => k_right (g := g) (d := d') (q := 2) (w := (h, h, R)) hd' (.inr rfl) L a b c e
  have bb := c_L_both hd k1 k2
  exact detL_to bb (by show _ = Sum.inl (some (Sum.inl (Value.int (V_right h a)))); exact congrArg (fun z => Sum.inl (some (Sum.inl (Value.int z)))) (if_pos rfl)) rfl
theorem a_right {g : GT} {d : Nat} {h : Hp} {R : (Nat → Int32) × (Nat → Int32) × Nat} (hd : 15 ≤ d) (L : LQ h) (a b c e : Int32) : CL g M_L_call d 1 6 [.inr (1, some 0), .inl (.int 13), .inl (.int a), .inl (.int b), .inl (.int c), .inl (.int e)] (h, h, R) (cl_det (.inl (some (.inl (.int (V_right h a))))) (h, h, R)) := k_right (g := g) (q := 1) (w := (h, h, R)) hd (.inl rfl) L a b c e
/-- what the law is told by claim, and what that leaves -/
def V_claim (h : Hp) (a : Int32) : Int32 := rsI (F_X8_claim h a).1
theorem k_claim {g : GT} {d q : Nat} {w : Wd} (hd : 15 ≤ d) (hq : q = 1 ∨ q = 2) (L : LQ (wq q w)) (a b c e : Int32) : CL g M_L_call d 2 12 [.inr (q, some 0), .inl (.int 14), .inl (.int a), .inl (.int b), .inl (.int c), .inl (.int e)] w (cl_det (.inl (some (.inl (.int (V_claim (wq q w) a))))) (ws q w (F_X8_claim (wq q w) a).2)) := by
  have hk := L.sr (sr_claim (wq q w) a)
  have s := (sp_claim (wq q w) a)
  exact c_L_call hd (s) (fun d' hd' => c_does_claim hd' hq s (fun d'' hd'' => cl_claim (by omega) a hq L.1 L.2.1 hk))
theorem b_claim {g : GT} {d : Nat} {h : Hp} {R : (Nat → Int32) × (Nat → Int32) × Nat} (hd : 16 ≤ d) (L : LQ h) (a b c e : Int32) : CL g M_L_both d 4 24 [.inr (1, some 0), .inr (2, some 0), .inl (.int 14), .inl (.int a), .inl (.int b), .inl (.int c), .inl (.int e)] (h, h, R) (cl_det (.inl (some (.inl (.int (V_claim h a))))) ((F_X8_claim h a).2, (F_X8_claim h a).2, R)) := by
  have k1 := fun (d' : Nat) (hd' : 15 ≤ d') => k_claim (g := g) (d := d') (q := 1) (w := (h, h, R)) hd' (.inl rfl) L a b c e
  have k2 := fun (d' : Nat) (hd' : 15 ≤ d') => k_claim (g := g) (d := d') (q := 2) (w := ((F_X8_claim h a).2, h, R)) hd' (.inr rfl) L a b c e
  have bb := c_L_both hd k1 k2
  exact detL_to bb (by show _ = Sum.inl (some (Sum.inl (Value.int (V_claim h a)))); exact congrArg (fun z => Sum.inl (some (Sum.inl (Value.int z)))) (if_pos rfl)) rfl
theorem a_claim {g : GT} {d : Nat} {h : Hp} {R : (Nat → Int32) × (Nat → Int32) × Nat} (hd : 15 ≤ d) (L : LQ h) (a b c e : Int32) (hn : (F_X8_claim h a).2 = h) : CL g M_L_call d 2 12 [.inr (1, some 0), .inl (.int 14), .inl (.int a), .inl (.int b), .inl (.int c), .inl (.int e)] (h, h, R) (cl_det (.inl (some (.inl (.int (V_claim h a))))) (h, h, R)) := detL_to (k_claim (g := g) (q := 1) (w := (h, h, R)) hd (.inl rfl) L a b c e) rfl (by show ((F_X8_claim h a).2, h, R) = (h, h, R); rw [hn])
/-- what the law is told by concerned, and what that leaves -/
def V_concerned (h : Hp) (a b : Int32) : Int32 := rsI (F_X8_concerned h a b)
theorem k_concerned {g : GT} {d q : Nat} {w : Wd} (hd : 15 ≤ d) (hq : q = 1 ∨ q = 2) (L : LQ (wq q w)) (a b c e : Int32) : CL g M_L_call d 2 12 [.inr (q, some 0), .inl (.int 15), .inl (.int a), .inl (.int b), .inl (.int c), .inl (.int e)] w (cl_det (.inl (some (.inl (.int (V_concerned (wq q w) a b))))) (ws q w (wq q w))) := by
  have s := (sp_concerned (wq q w) a b L.1)
  exact c_L_call hd (s) (fun d' hd' => c_does_concerned hd' hq s (fun d'' hd'' => cl_concerned (by omega) a b hq L))
theorem b_concerned {g : GT} {d : Nat} {h : Hp} {R : (Nat → Int32) × (Nat → Int32) × Nat} (hd : 16 ≤ d) (L : LQ h) (a b c e : Int32) : CL g M_L_both d 4 24 [.inr (1, some 0), .inr (2, some 0), .inl (.int 15), .inl (.int a), .inl (.int b), .inl (.int c), .inl (.int e)] (h, h, R) (cl_det (.inl (some (.inl (.int (V_concerned h a b))))) (h, h, R)) := by
  have k1 := fun (d' : Nat) (hd' : 15 ≤ d') => k_concerned (g := g) (d := d') (q := 1) (w := (h, h, R)) hd' (.inl rfl) L a b c e
  have k2 := fun (d' : Nat) (hd' : 15 ≤ d') => k_concerned (g := g) (d := d') (q := 2) (w := (h, h, R)) hd' (.inr rfl) L a b c e
  have bb := c_L_both hd k1 k2
  exact detL_to bb (by show _ = Sum.inl (some (Sum.inl (Value.int (V_concerned h a b)))); exact congrArg (fun z => Sum.inl (some (Sum.inl (Value.int z)))) (if_pos rfl)) rfl
theorem a_concerned {g : GT} {d : Nat} {h : Hp} {R : (Nat → Int32) × (Nat → Int32) × Nat} (hd : 15 ≤ d) (L : LQ h) (a b c e : Int32) : CL g M_L_call d 2 12 [.inr (1, some 0), .inl (.int 15), .inl (.int a), .inl (.int b), .inl (.int c), .inl (.int e)] (h, h, R) (cl_det (.inl (some (.inl (.int (V_concerned h a b))))) (h, h, R)) := k_concerned (g := g) (q := 1) (w := (h, h, R)) hd (.inl rfl) L a b c e
/-- what the law is told by seats, and what that leaves -/
def V_seats (h : Hp) (a b : Int32) : Int32 := rsI (F_X8_seats h a b)
theorem k_seats {g : GT} {d q : Nat} {w : Wd} (hd : 15 ≤ d) (hq : q = 1 ∨ q = 2) (L : LQ (wq q w)) (a b c e : Int32) : CL g M_L_call d 2 12 [.inr (q, some 0), .inl (.int 16), .inl (.int a), .inl (.int b), .inl (.int c), .inl (.int e)] w (cl_det (.inl (some (.inl (.int (V_seats (wq q w) a b))))) (ws q w (wq q w))) := by
  have s := (sp_seats (wq q w) a b)
  exact c_L_call hd (s) (fun d' hd' => c_does_seats hd' hq s (fun d'' hd'' => cl_seats (by omega) a b hq L))
theorem b_seats {g : GT} {d : Nat} {h : Hp} {R : (Nat → Int32) × (Nat → Int32) × Nat} (hd : 16 ≤ d) (L : LQ h) (a b c e : Int32) : CL g M_L_both d 4 24 [.inr (1, some 0), .inr (2, some 0), .inl (.int 16), .inl (.int a), .inl (.int b), .inl (.int c), .inl (.int e)] (h, h, R) (cl_det (.inl (some (.inl (.int (V_seats h a b))))) (h, h, R)) := by
  have k1 := fun (d' : Nat) (hd' : 15 ≤ d') => k_seats (g := g) (d := d') (q := 1) (w := (h, h, R)) hd' (.inl rfl) L a b c e
  have k2 := fun (d' : Nat) (hd' : 15 ≤ d') => k_seats (g := g) (d := d') (q := 2) (w := (h, h, R)) hd' (.inr rfl) L a b c e
  have bb := c_L_both hd k1 k2
  exact detL_to bb (by show _ = Sum.inl (some (Sum.inl (Value.int (V_seats h a b)))); exact congrArg (fun z => Sum.inl (some (Sum.inl (Value.int z)))) (if_pos rfl)) rfl
theorem a_seats {g : GT} {d : Nat} {h : Hp} {R : (Nat → Int32) × (Nat → Int32) × Nat} (hd : 15 ≤ d) (L : LQ h) (a b c e : Int32) : CL g M_L_call d 2 12 [.inr (1, some 0), .inl (.int 16), .inl (.int a), .inl (.int b), .inl (.int c), .inl (.int e)] (h, h, R) (cl_det (.inl (some (.inl (.int (V_seats h a b))))) (h, h, R)) := k_seats (g := g) (q := 1) (w := (h, h, R)) hd (.inl rfl) L a b c e
/-- what the law is told by pass, and what that leaves -/
def V_pass (h : Hp) (a : Int32) : Int32 := rsI (F_X8_pass h a).1
theorem k_pass {g : GT} {d q : Nat} {w : Wd} (hd : 15 ≤ d) (hq : q = 1 ∨ q = 2) (L : LQ (wq q w)) (a b c e : Int32) : CL g M_L_call d 1 6 [.inr (q, some 0), .inl (.int 17), .inl (.int a), .inl (.int b), .inl (.int c), .inl (.int e)] w (cl_det (.inl (some (.inl (.int (V_pass (wq q w) a))))) (ws q w (F_X8_pass (wq q w) a).2)) := by
  have hk := L.sr (sr_pass (wq q w) a)
  have s := (sp_pass (wq q w) a L.1)
  exact c_L_call hd (s) (fun d' hd' => c_does_pass hd' hq s (fun d'' hd'' => cl_pass (by omega) a hq L.1 L.2.1 hk))
theorem b_pass {g : GT} {d : Nat} {h : Hp} {R : (Nat → Int32) × (Nat → Int32) × Nat} (hd : 16 ≤ d) (L : LQ h) (a b c e : Int32) : CL g M_L_both d 2 12 [.inr (1, some 0), .inr (2, some 0), .inl (.int 17), .inl (.int a), .inl (.int b), .inl (.int c), .inl (.int e)] (h, h, R) (cl_det (.inl (some (.inl (.int (V_pass h a))))) ((F_X8_pass h a).2, (F_X8_pass h a).2, R)) := by
  have k1 := fun (d' : Nat) (hd' : 15 ≤ d') => k_pass (g := g) (d := d') (q := 1) (w := (h, h, R)) hd' (.inl rfl) L a b c e
  have k2 := fun (d' : Nat) (hd' : 15 ≤ d') => k_pass (g := g) (d := d') (q := 2) (w := ((F_X8_pass h a).2, h, R)) hd' (.inr rfl) L a b c e
  have bb := c_L_both hd k1 k2
  exact detL_to bb (by show _ = Sum.inl (some (Sum.inl (Value.int (V_pass h a)))); exact congrArg (fun z => Sum.inl (some (Sum.inl (Value.int z)))) (if_pos rfl)) rfl
theorem a_pass {g : GT} {d : Nat} {h : Hp} {R : (Nat → Int32) × (Nat → Int32) × Nat} (hd : 15 ≤ d) (L : LQ h) (a b c e : Int32) (hn : (F_X8_pass h a).2 = h) : CL g M_L_call d 1 6 [.inr (1, some 0), .inl (.int 17), .inl (.int a), .inl (.int b), .inl (.int c), .inl (.int e)] (h, h, R) (cl_det (.inl (some (.inl (.int (V_pass h a))))) (h, h, R)) := detL_to (k_pass (g := g) (q := 1) (w := (h, h, R)) hd (.inl rfl) L a b c e) rfl (by show ((F_X8_pass h a).2, h, R) = (h, h, R); rw [hn])
/-- what the law is told by ofBooking, and what that leaves -/
def V_ofBooking (h : Hp) (a b : Int32) : Int32 := rsI (F_X8_ofBooking h a b)
theorem k_ofBooking {g : GT} {d q : Nat} {w : Wd} (hd : 15 ≤ d) (hq : q = 1 ∨ q = 2) (L : LQ (wq q w)) (a b c e : Int32) : CL g M_L_call d 2 12 [.inr (q, some 0), .inl (.int 18), .inl (.int a), .inl (.int b), .inl (.int c), .inl (.int e)] w (cl_det (.inl (some (.inl (.int (V_ofBooking (wq q w) a b))))) (ws q w (wq q w))) := by
  have s := (sp_ofBooking (wq q w) a b)
  exact c_L_call hd (s) (fun d' hd' => c_does_ofBooking hd' hq s (fun d'' hd'' => cl_ofBooking (by omega) a b hq L))
theorem b_ofBooking {g : GT} {d : Nat} {h : Hp} {R : (Nat → Int32) × (Nat → Int32) × Nat} (hd : 16 ≤ d) (L : LQ h) (a b c e : Int32) : CL g M_L_both d 4 24 [.inr (1, some 0), .inr (2, some 0), .inl (.int 18), .inl (.int a), .inl (.int b), .inl (.int c), .inl (.int e)] (h, h, R) (cl_det (.inl (some (.inl (.int (V_ofBooking h a b))))) (h, h, R)) := by
  have k1 := fun (d' : Nat) (hd' : 15 ≤ d') => k_ofBooking (g := g) (d := d') (q := 1) (w := (h, h, R)) hd' (.inl rfl) L a b c e
  have k2 := fun (d' : Nat) (hd' : 15 ≤ d') => k_ofBooking (g := g) (d := d') (q := 2) (w := (h, h, R)) hd' (.inr rfl) L a b c e
  have bb := c_L_both hd k1 k2
  exact detL_to bb (by show _ = Sum.inl (some (Sum.inl (Value.int (V_ofBooking h a b)))); exact congrArg (fun z => Sum.inl (some (Sum.inl (Value.int z)))) (if_pos rfl)) rfl
theorem a_ofBooking {g : GT} {d : Nat} {h : Hp} {R : (Nat → Int32) × (Nat → Int32) × Nat} (hd : 15 ≤ d) (L : LQ h) (a b c e : Int32) : CL g M_L_call d 2 12 [.inr (1, some 0), .inl (.int 18), .inl (.int a), .inl (.int b), .inl (.int c), .inl (.int e)] (h, h, R) (cl_det (.inl (some (.inl (.int (V_ofBooking h a b))))) (h, h, R)) := k_ofBooking (g := g) (q := 1) (w := (h, h, R)) hd (.inl rfl) L a b c e
/-- the law's own trip, ride, journey -/
def V_trip (h : Hp) (mo fi se da s mi : Int32) : Int32 := rsI (F_X8_trip h mo fi se da s mi).1
def V_ride (h : Hp) (a b ti n ri wh : Int32) : Int32 := rsI (F_X8_ride h a b ti n ri wh).1
def V_journey (h : Hp) (a b ti n wh : Int32) : UInt64 := rsD (F_X8_journey h a b ti n wh).1
theorem k_trip {g : GT} {d q : Nat} {w : Wd} (hd : 15 ≤ d) (hq : q = 1 ∨ q = 2) (L : LQ (wq q w)) (mo fi se da s mi : Int32) (hk : LQ (F_X8_trip (wq q w) mo fi se da s mi).2) : CL g M_L_trip d 14 400 [.inr (q, some 0), .inl (.int mo), .inl (.int fi), .inl (.int se), .inl (.int da), .inl (.int s), .inl (.int mi)] w (cl_det (.inl (some (.inl (.int (V_trip (wq q w) mo fi se da s mi))))) (ws q w (F_X8_trip (wq q w) mo fi se da s mi).2)) :=
  c_L_trip hd hq (sp_trip (wq q w) mo fi se da s mi) (fun d' hd' => cl_trip (by omega) mo fi se da s mi hq L.1 L.2.1 hk)
theorem k_ride {g : GT} {d q : Nat} {w : Wd} (hd : 15 ≤ d) (hq : q = 1 ∨ q = 2) (L : LQ (wq q w)) (a b ti n ri wh : Int32) : CL g M_L_ride d 12 71 [.inr (q, some 0), .inl (.int a), .inl (.int b), .inl (.int ti), .inl (.int n), .inl (.int ri), .inl (.int wh)] w (cl_det (.inl (some (.inl (.int (V_ride (wq q w) a b ti n ri wh))))) w) :=
  detL_to (c_L_ride hd hq (sp_ride (wq q w) a b ti n ri wh) (fun d' hd' => cl_ride (by omega) a b ti n ri wh hq L)) rfl (ws_same hq w)
theorem k_journey {g : GT} {d q : Nat} {w : Wd} (hd : 15 ≤ d) (hq : q = 1 ∨ q = 2) (L : LQ (wq q w)) (a b ti n wh : Int32) (hw : wh = 0 ∨ wh = 1 ∨ wh = 2 ∨ ¬ okR wh 0 3) : CL g M_L_journey d 11 65 [.inr (q, some 0), .inl (.int a), .inl (.int b), .inl (.int ti), .inl (.int n), .inl (.int wh)] w (cl_det (.inl (some (.inl (.double (V_journey (wq q w) a b ti n wh))))) w) :=
  detL_to (c_L_journey hd hq (sp_journey (wq q w) a b ti n wh) (fun d' hd' => cl_journey (by omega) a b ti n wh hq hw L)) rfl (ws_same hq w)
