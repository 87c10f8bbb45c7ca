/-! ===== own: the search's numbers apart, all is told alike ===== -/
theorem ZX.fi {h h' : Hp} (x : ZX h h') {f : Nat} (hf : f ∉ zF) : xFI h' f = xFI h f := by
  funext i
  exact x.2.1 f i (fun q => hf q.1)
theorem ZX.ai {h h' : Hp} (x : ZX h h') {s : Nat} (hs : s ∉ zA) : xAI h' s = xAI h s := by
  funext i j
  exact x.2.2 s i j (fun q => hs q.1)
theorem ZX.le {h h' : Hp} (x : ZX h h') : xLE h' = xLE h := congrArg (fun z => z.2.1) x.1.2
theorem ZX.ln {h h' : Hp} (x : ZX h h') (s : Nat) : cy_ln h' s = cy_ln h s := by unfold cy_ln; rw [x.ls]
theorem ZX.at {h h' : Hp} (x : ZX h h') {s : Nat} (hs : s ∉ zA) (i : Nat) (v : Int32) : F_at h' s i v = F_at h s i v := by unfold F_at; rw [x.ln, x.ai hs]
-- written to, both stay alike
theorem ZX.sfiw {h h' : Hp} (x : ZX h h') (k i : Nat) (v : Int32) : ZX (sFI h k i v) (sFI h' k i v) := ⟨x.1, fun f j n => by rw [fi_fi, fi_fi, x.2.1 f j n], x.2.2⟩
theorem ZX.saiw {h h' : Hp} (x : ZX h h') (s i j : Nat) (v : Int32) : ZX (sAI h s i j v) (sAI h' s i j v) := ⟨x.1, x.2.1, fun s' i' j' n => by rw [ai_ai, ai_ai, x.2.2 s' i' j' n]⟩
theorem ZX.putw {h h' : Hp} (x : ZX h h') (s i : Nat) (v w : Int32) : ZX (H_put h s i v w) (H_put h' s i v w) := by
  have key : ∀ X : Hp, H_put X s i v w = if v < 0 then X else if Int32.ofNat (cy_ln X s) ≤ v then X else sAI X s i v.toNatClampNeg w := fun X => by
    unfold H_put A_put
    split
    · rfl
    · split <;> rfl
  rw [key h, key h', x.ln]
  split
  · exact x
  · split
    · exact x
    · exact x.saiw _ _ _ _
theorem ZX.sfrw {h h' : Hp} (x : ZX h h') (k i : Nat) (v : Option Nat) : ZX (sFR h k i v) (sFR h' k i v) := ⟨⟨by show up2 h'.2.1 k i v = up2 h.2.1 k i v; rw [x.1.1], x.1.2⟩, x.2.1, x.2.2⟩
theorem ZX.snow {h h' : Hp} (x : ZX h h') (s : Nat) : ZX (sNO h s) (sNO h' s) := by
  have ec : h'.2.2.2.1 s = h.2.2.2.1 s := congrFun x.cn s
  refine ⟨⟨?_, ?_⟩, fun f i n => ?_, x.2.2⟩
  · show (fun k i => if k / 100 = s ∧ i = h'.2.2.2.1 s then none else h'.2.1 k i) = (fun k i => if k / 100 = s ∧ i = h.2.2.2.1 s then none else h.2.1 k i)
    rw [ec, x.1.1]
  · show (up1 h'.2.2.2.1 s (h'.2.2.2.1 s + 1), h'.2.2.2.2) = (up1 h.2.2.2.1 s (h.2.2.2.1 s + 1), h.2.2.2.2)
    rw [x.1.2]
  · show (if f / 100 = s ∧ i = h'.2.2.2.1 s then 0 else xFI h' f i) = (if f / 100 = s ∧ i = h.2.2.2.1 s then 0 else xFI h f i)
    rw [ec, x.2.1 f i n]
theorem ZX.snaw {h h' : Hp} (x : ZX h h') (s : Nat) : ZX (sNA h s) (sNA h' s) := by
  have ec : h'.2.2.2.1 s = h.2.2.2.1 s := congrFun x.cn s
  refine ⟨⟨x.1.1, ?_⟩, x.2.1, fun s' i j n => ?_⟩
  · show (up1 h'.2.2.2.1 s (h'.2.2.2.1 s + 1), h'.2.2.2.2) = (up1 h.2.2.2.1 s (h.2.2.2.1 s + 1), h.2.2.2.2)
    rw [x.1.2]
  · show (if s' = s ∧ i = h'.2.2.2.1 s then 0 else xAI h' s' i j) = (if s' = s ∧ i = h.2.2.2.1 s then 0 else xAI h s' i j)
    rw [ec, x.2.2 s' i j n]
theorem ZX.addw {h h' : Hp} (x : ZX h h') {s : Nat} (hs : 100 * s ∉ zF) (e : Nat) : ZX (H_add h s e) (H_add h' s e) := by
  have ef : xFI h' (100 * s) 0 = xFI h (100 * s) 0 := by rw [x.fi hs]
  have el : h'.2.2.2.2.2.1 s = h.2.2.2.2.2.1 s := congrFun x.ls s
  have ec : cy_cap h' s = cy_cap h s := by unfold cy_cap; rw [x.cn, x.ls]
  refine ⟨⟨x.1.1, ?_⟩, fun f i n => ?_, x.2.2⟩
  · unfold H_add
    show (sCN (sLS (sLS (sLE (sFI h' (100 * s) 0 (xFI h' (100 * s) 0 + 1)) s (xLS h' s) e) s (xLS h' s + 1)) (s + 2) (cy_cap h' s)) (s + 2) 1).2.2.2 = (sCN (sLS (sLS (sLE (sFI h (100 * s) 0 (xFI h (100 * s) 0 + 1)) s (xLS h s) e) s (xLS h s + 1)) (s + 2) (cy_cap h s)) (s + 2) 1).2.2.2
    rw [ec, x.ls]
    show (up1 h'.2.2.2.1 (s + 2) 1, up2 h'.2.2.2.2.1 s (xLS h s) e, up1 (up1 h'.2.2.2.2.2.1 s (xLS h s + 1)) (s + 2) (cy_cap h s), h'.2.2.2.2.2.2) = (up1 h.2.2.2.1 (s + 2) 1, up2 h.2.2.2.2.1 s (xLS h s) e, up1 (up1 h.2.2.2.2.2.1 s (xLS h s + 1)) (s + 2) (cy_cap h s), h.2.2.2.2.2.2)
    rw [x.1.2]
  · show (if f = 100 * s ∧ i = 0 then xFI h' (100 * s) 0 + 1 else xFI h' f i) = (if f = 100 * s ∧ i = 0 then xFI h (100 * s) 0 + 1 else xFI h f i)
    rw [ef, x.2.1 f i n]
theorem ZX.stopAt {h h' : Hp} (x : ZX h h') (t : Nat) (p : Int32) : F_X7_stopAt h' t p = F_X7_stopAt h t p := by
  unfold F_X7_stopAt; rw [x.at (by decide)]
theorem ZX.reaches {h h' : Hp} (x : ZX h h') (t : Nat) (d p : Int32) : F_X7_reaches h' t d p = F_X7_reaches h t d p := by
  unfold F_X7_reaches; rw [x.at (by decide), x.at (by decide)]
theorem ZX.leaves {h h' : Hp} (x : ZX h h') (t : Nat) (d p : Int32) : F_X7_leaves h' t d p = F_X7_leaves h t d p := by
  unfold F_X7_leaves; rw [x.at (by decide), x.at (by decide)]
theorem ZX.isThere {h h' : Hp} (x : ZX h h') (t : Nat) (d : Int32) : F_X7_isThere h' t d = F_X7_isThere h t d := by
  unfold F_X7_isThere; rw [x.ai (s := 31) (by decide)]
theorem ZX.goes {h h' : Hp} (x : ZX h h') (t : Nat) (d : Int32) : F_X7_goes h' t d = F_X7_goes h t d := by
  unfold F_X7_goes; rw [x.isThere, x.at (by decide)]
theorem ZX.walk {h h' : Hp} (x : ZX h h') (a b : Int32) : F_X3_walk h' a b = F_X3_walk h a b := by
  unfold F_X3_walk; rw [x.at (by decide)]
theorem ZX.tf {h h' : Hp} (x : ZX h h') (a : Int32) : F_X3_transferAt h' a = F_X3_transferAt h a := by
  unfold F_X3_transferAt; rw [x.at (by decide)]
theorem ZX.departs {h h' : Hp} (x : ZX h h') (t r : Nat) : F_X4_departs h' t r = F_X4_departs h t r := by
  unfold F_X4_departs; rw [x.leaves, x.fi (f := 501) (by decide), x.fi (f := 502) (by decide)]
theorem ZX.arrives {h h' : Hp} (x : ZX h h') (t r : Nat) : F_X4_arrives h' t r = F_X4_arrives h t r := by
  unfold F_X4_arrives; rw [x.reaches, x.fi (f := 501) (by decide), x.fi (f := 503) (by decide)]
theorem ZX.ebj {h h' : Hp} (x : ZX h h') (b : Nat) : bj h' b = bj h b := by
  unfold bj; rw [x.fr]
theorem ZX.erls {h h' : Hp} (x : ZX h h') (j : Nat) : rls h' j = rls h j := by
  unfold rls; rw [x.fr]
theorem ZX.etr {h h' : Hp} (x : ZX h h') (r : Nat) : tr h' r = tr h r := by
  unfold tr; rw [x.fr]
theorem ZX.goesBy {h h' : Hp} (x : ZX h h') (j : Nat) (R : List Nat) (t : Nat) (dy : Int32) : F_X2_goesBy h' j R t dy = F_X2_goesBy h j R t dy := by
  have key : ∀ Q : List Nat, L_X2_goesBy_5 h' j R t dy Q = L_X2_goesBy_5 h j R t dy Q := by
    intro Q
    induction Q with
    | nil => rfl
    | cons r Q ih =>
      rw [L_X2_goesBy_5_s, L_X2_goesBy_5_s, ih]
      unfold B_X2_goesBy_5
      rw [x.etr, x.fi (f := 800) (by decide), x.fi (f := 501) (by decide)]
  exact key R
theorem ZX.isBroken {h h' : Hp} (x : ZX h h') (j : Nat) (R : List Nat) : F_X2_isBroken h' j R = F_X2_isBroken h j R := by
  have key : ∀ (Q : List Nat) (be : Int32), L_X2_isBroken_10 h' j R Q be = L_X2_isBroken_10 h j R Q be := by
    intro Q
    induction Q with
    | nil => intro be; rfl
    | cons r Q ih =>
      intro be
      rw [L_X2_isBroken_10_s, L_X2_isBroken_10_s]
      unfold B_X2_isBroken_10
      rw [x.etr, x.goes, x.fi (f := 501) (by decide), x.fi (f := 505) (by decide), x.departs, x.arrives, ih]
  unfold F_X2_isBroken
  rw [key, x.fi (f := 300) (by decide)]
theorem ZX.endNow {h h' : Hp} (x : ZX h h') (j : Nat) (R : List Nat) : F_X2_endNow h' j R = F_X2_endNow h j R := by
  have key : ∀ (Q : List Nat) (be : Int32), L_X2_endNow_10 h' j R Q be = L_X2_endNow_10 h j R Q be := by
    intro Q
    induction Q with
    | nil => intro be; rw [L_X2_endNow_10_z, L_X2_endNow_10_z, x.fi (f := 303) (by decide)]
    | cons r Q ih =>
      intro be
      rw [L_X2_endNow_10_s, L_X2_endNow_10_s]
      unfold B_X2_endNow_10
      rw [x.etr, x.arrives, ih]
  unfold F_X2_endNow
  rw [key, x.fi (f := 300) (by decide)]
theorem ZX.amount {h h' : Hp} (x : ZX h h') (b : Nat) : F_X0_amount h' b = F_X0_amount h b := by
  unfold F_X0_amount
  rw [x.ebj, x.erls, x.isBroken, x.endNow, x.fi (f := 103) (by decide), x.fi (f := 304) (by decide), x.fi (f := 101) (by decide)]
theorem ZX.isOpen {h h' : Hp} (x : ZX h h') (b : Nat) : F_X0_isOpen h' b = F_X0_isOpen h b := by
  unfold F_X0_isOpen
  rw [x.fi (f := 103) (by decide)]
theorem ZX.isBooked {h h' : Hp} (x : ZX h h') (t : Nat) : F_X8_isBooked h' t = F_X8_isBooked h t := by
  have key : ∀ (fu i : Nat), L_X8_isBooked_2 h' t fu i = L_X8_isBooked_2 h t fu i := by
    intro fu
    induction fu with
    | zero => intro i; rfl
    | succ fu ih =>
      intro i
      rw [L_X8_isBooked_2_s, L_X8_isBooked_2_s]
      unfold B_X8_isBooked_2
      rw [x.ls, x.ebj, x.erls, x.goesBy, ih]
  exact key _ _
theorem ZX.free {h h' : Hp} (x : ZX h h') (t : Nat) (dy : Int32) : F_X8_freeSeats h' t dy = F_X8_freeSeats h t dy := by
  have key : ∀ (fu : Nat) (fr : Int32) (i : Nat), L_X8_freeSeats_8 h' t dy fu fr i = L_X8_freeSeats_8 h t dy fu fr i := by
    intro fu
    induction fu with
    | zero => intro fr i; rfl
    | succ fu ih =>
      intro fr i
      rw [L_X8_freeSeats_8_s, L_X8_freeSeats_8_s]
      unfold B_X8_freeSeats_8
      rw [x.ls, x.ebj, x.erls, x.goesBy, x.fi (f := 103) (by decide), ih, ih]
  unfold F_X8_freeSeats
  rw [key, x.fi (f := 803) (by decide)]
theorem ZX.conc {h h' : Hp} (x : ZX h h') (t dy : Int32) : ∀ (fu : Nat) (su : Int32) (i : Nat), L_X8_concerned_19 h' t dy fu su i = L_X8_concerned_19 h t dy fu su i := by
  intro fu
  induction fu with
  | zero => intro su i; rfl
  | succ fu ih =>
    intro su i
    rw [L_X8_concerned_19_s, L_X8_concerned_19_s]
    unfold B_X8_concerned_19
    rw [x.ls, x.ebj, x.erls, x.goesBy, x.isOpen, ih, ih]
/-- same answer, heaps alike -/
def SA (r r' : Rs × Hp) : Prop := r'.1 = r.1 ∧ ZX r.2 r'.2
theorem SA.i {r : Rs} {h h' : Hp} (x : ZX h h') : SA (r, h) (r, h') := ⟨rfl, x⟩
theorem z_stop {h h' : Hp} (x : ZX h h') (a : Int32) : SA (F_X8_stop h a) (F_X8_stop h' a) := by
  unfold F_X8_stop F_X3_addStop
  rw [x.fi (f := 403) (by decide)]
  split
  · split
    · exact ⟨rfl, by
        show ZX (sFI _ 403 0 _) (sFI _ 403 0 _)
        rw [fi_put, fi_put, x.fi (f := 403) (by decide)]
        exact (x.putw _ _ _ _).sfiw _ _ _⟩
    · exact SA.i x
  · exact SA.i x
theorem z_footway {h h' : Hp} (x : ZX h h') (a b mi : Int32) : SA (F_X8_footway h a b mi) (F_X8_footway h' a b mi) := by
  unfold F_X8_footway okS
  rw [x.fi (f := 403) (by decide), x.walk]
  repeat' split
  all_goals first | exact SA.i x | exact ⟨rfl, (x.putw _ _ _ _).putw _ _ _ _⟩
theorem z_goOn {h h' : Hp} (x : ZX h h') (t : Nat) (s ri wa : Int32) : ZX (F_X7_goOn h t s ri wa) (F_X7_goOn h' t s ri wa) := by
  unfold F_X7_goOn
  simp only [fi_put]
  rw [x.fi (f := 810) (by decide), x.at (s := 30) (by decide)]
  exact (((x.putw _ _ _ _).putw _ _ _ _).putw _ _ _ _).sfiw _ _ _
theorem z_calls {h h' : Hp} (x : ZX h h') (t s ri wa : Int32) : SA (F_X8_calls h t s ri wa) (F_X8_calls h' t s ri wa) := by
  have g := z_goOn x t.toNatClampNeg s ri wa
  unfold F_X8_calls okT okS
  rw [x.fi (f := 403) (by decide), x.ls, x.fi (f := 810) (by decide), x.isBooked]
  repeat' split
  all_goals first | exact SA.i x | exact ⟨by
    show Sum.inl (some (Sum.inl (Value.int (xFI (F_X7_goOn h' t.toNatClampNeg s ri wa) 810 t.toNatClampNeg)))) = _
    rw [g.fi (f := 810) (by decide)], g⟩
theorem z_runs {h h' : Hp} (x : ZX h h') (t dy v : Int32) : SA (F_X8_runs h t dy v) (F_X8_runs h' t dy v) := by
  unfold F_X8_runs okT F_X7_setThere
  rw [x.ls, x.isThere]
  repeat' split
  all_goals first | exact SA.i x | exact ⟨rfl, x.saiw _ _ _ _⟩
theorem z_delay {h h' : Hp} (x : ZX h h') (t dy v : Int32) : SA (F_X8_delay h t dy v) (F_X8_delay h' t dy v) := by
  unfold F_X8_delay okT
  rw [x.ls, x.at (by decide)]
  repeat' split
  all_goals first | exact SA.i x | exact ⟨rfl, x.putw _ _ _ _⟩
theorem z_note {h h' : Hp} (x : ZX h h') (t mi : Int32) : SA (F_X8_note h t mi) (F_X8_note h' t mi) := by
  unfold F_X8_note okT
  simp only [fi_put]
  rw [x.ls, x.fi (f := 811) (by decide)]
  repeat' split
  all_goals first | exact SA.i x | exact ⟨by dsimp only; rw [fi_eq, fi_eq], (x.putw _ _ _ _).sfiw _ _ _⟩
theorem z_prices {h h' : Hp} (x : ZX h h') (f ba ce su : Int32) : SA (F_X8_prices h f ba ce su) (F_X8_prices h' f ba ce su) := by
  unfold F_X8_prices F_X1_setPrices
  repeat' split
  all_goals first | exact SA.i x | exact ⟨rfl, ((x.putw _ _ _ _).putw _ _ _ _).putw _ _ _ _⟩
theorem z_buy {h h' : Hp} (x : ZX h h') (b : Int32) : SA (F_X8_buy h b) (F_X8_buy h' b) := by
  unfold F_X8_buy okB
  rw [x.ls, x.fi (f := 103) (by decide), (x.sfiw 103 b.toNatClampNeg 1).fi (f := 101) (by decide)]
  repeat' split
  all_goals first | exact SA.i x | exact ⟨rfl, x.sfiw _ _ _⟩
theorem z_claim {h h' : Hp} (x : ZX h h') (b : Int32) : SA (F_X8_claim h b) (F_X8_claim h' b) := by
  unfold F_X8_claim okB
  rw [x.ls, x.amount]
  repeat' split
  all_goals first | exact SA.i x | exact ⟨rfl, x.sfiw _ _ _⟩
theorem z_pass {h h' : Hp} (x : ZX h h') (a : Int32) : SA (F_X8_pass h a) (F_X8_pass h' a) := by
  have key : ∀ (fu : Nat) (X X' : Hp) (dr : Int32) (i : Nat), ZX X X' → SA (L_X8_pass_22 h a fu X dr i) (L_X8_pass_22 h' a fu X' dr i) := by
    intro fu
    induction fu with
    | zero => intro X X' dr i y; exact SA.i y
    | succ fu ih =>
      intro X X' dr i y
      rw [L_X8_pass_22_s, L_X8_pass_22_s]
      unfold B_X8_pass_22
      rw [y.ls, y.fi (f := 103) (by decide), y.fi (f := 905) (by decide), y.fi (f := 102) (by decide)]
      repeat' split
      · exact SA.i y
      · exact ih _ _ _ _ y
      · exact ih _ _ _ _ (y.sfiw _ _ _)
      · exact ih _ _ _ _ y
  unfold F_X8_pass
  rw [x.fi (f := 905) (by decide)]
  split
  · exact key _ _ _ _ _ (x.sfiw _ _ _)
  · exact SA.i x
theorem z_trip {h h' : Hp} (x : ZX h h') (mo fi se da s mi : Int32) : SA (F_X8_trip h mo fi se da s mi) (F_X8_trip h' mo fi se da s mi) := by
  have wk : ∀ (fu : Nat) (X X' Y Y' : Hp) (t : Nat) (dy : Nat), ZX Y Y' → ZX (L_X7_setWeek_2 X t da (K_X7_setWeek_2 X t da) fu Y dy) (L_X7_setWeek_2 X' t da (K_X7_setWeek_2 X' t da) fu Y' dy) := by
    intro fu
    induction fu with
    | zero => intro X X' Y Y' t dy y; exact y
    | succ fu ih =>
      intro X X' Y Y' t dy y
      rw [L_X7_setWeek_2_s, L_X7_setWeek_2_s]
      unfold B_X7_setWeek_2
      split
      · exact y
      · split
        · exact ih _ _ _ _ _ _ (y.saiw _ _ _ _)
        · exact ih _ _ _ _ _ _ (y.saiw _ _ _ _)
  have ini : ∀ (X X' : Hp) (i : Nat) (nu : Int32), ZX X X' → ZX (F_X7_init X i nu mo fi se) (F_X7_init X' i nu mo fi se) := by
    intro X X' i nu y
    unfold F_X7_init
    simp only [y.cn]
    exact ((((((((((((((((y.snaw 28).sfrw _ _ _).snaw 29).sfrw _ _ _).snaw 30).sfrw _ _ _).snaw 31).sfrw _ _ _).snaw 32).sfrw _ _ _).snaw 33).sfrw _ _ _).sfiw _ _ _).sfiw _ _ _).sfiw _ _ _).sfiw _ _ _)
  unfold F_X8_trip okS
  rw [x.fi (f := 403) (by decide), x.ls, x.cn]
  repeat' split
  all_goals first | exact SA.i x | exact ⟨rfl, ((((((wk _ _ _ _ _ _ _ (ini _ _ _ _ (x.snow 8))).putw _ _ _ _).putw _ _ _ _).putw _ _ _ _).sfiw _ _ _).addw (by decide) _)⟩
theorem z_right {h h' : Hp} (x : ZX h h') (b : Int32) : F_X8_right h' b = F_X8_right h b := by
  unfold F_X8_right okB
  rw [x.ls, x.amount]
theorem z_concerned {h h' : Hp} (x : ZX h h') (t dy : Int32) : F_X8_concerned h' t dy = F_X8_concerned h t dy := by
  unfold F_X8_concerned okT
  rw [x.ls, x.conc]
theorem z_seats {h h' : Hp} (x : ZX h h') (t dy : Int32) : F_X8_seats h' t dy = F_X8_seats h t dy := by
  unfold F_X8_seats okT
  rw [x.ls, x.free]
theorem z_ofBooking {h h' : Hp} (x : ZX h h') (b wh : Int32) : F_X8_ofBooking h' b wh = F_X8_ofBooking h b wh := by
  unfold F_X8_ofBooking okB
  rw [x.ls, x.ebj, x.fi (f := 103) (by decide), x.fi (f := 101) (by decide), x.fi (f := 302) (by decide), x.fi (f := 304) (by decide)]
theorem z_leaveAt0 (s ti : Int32) {X X' : Hp} (y : ZX X X') : ZX (F_X6_leaveAt0 X s ti) (F_X6_leaveAt0 X' s ti) := by
  unfold F_X6_leaveAt0
  rw [y.fi (f := 701) (by decide), y.walk, y.fi (f := 704) (by decide)]
  generalize (if s = xFI X 701 0 then (0 : Int32) else F_X3_walk X s (xFI X 701 0)) = mi
  split
  · exact y
  · exact y.sfiw _ _ _
theorem z_tryRun1 (t : Nat) (dy s ti tf : Int32) {X X' : Hp} (y : ZX X X') : ZX (F_X6_tryRun1 X t dy s ti tf) (F_X6_tryRun1 X' t dy s ti tf) := by
  have key : ∀ (H H' : Hp) (fu : Nat) (Y Y' : Hp) (ab : Int32) (p : Nat), ZX Y Y' → ZX (L_X6_tryRun1_6 H t dy s ti tf fu Y ab p) (L_X6_tryRun1_6 H' t dy s ti tf fu Y' ab p) := by
    intro H H' fu
    induction fu with
    | zero => intro Y Y' ab p y; exact y
    | succ fu ih =>
      intro Y Y' ab p y
      rw [L_X6_tryRun1_6_s, L_X6_tryRun1_6_s]
      unfold B_X6_tryRun1_6
      rw [y.fi (f := 810) (by decide), y.stopAt, y.walk, y.leaves, y.reaches]
      split
      · exact y
      · split
        · exact ih _ _ _ _ y
        · exact ih _ _ _ _ (z_leaveAt0 _ _ y)
  exact key _ _ _ _ _ _ _ y
theorem z_goOn1 (s ti tf : Int32) {X X' : Hp} (y : ZX X X') : ZX (F_X6_goOn1 X s ti tf) (F_X6_goOn1 X' s ti tf) := by
  have inner : ∀ (H H' Z Z' : Hp) (dy : Int32) (rec rec' : Hp → Int32 → Hp), (∀ U U' d, ZX U U' → ZX (rec U d) (rec' U' d)) → ∀ (fu : Nat) (Y Y' : Hp) (i : Nat), ZX Y Y' → ZX (L_X6_goOn1_38 H s ti tf Z dy rec (K_X6_goOn1_38 H s ti tf Z dy rec) fu Y i) (L_X6_goOn1_38 H' s ti tf Z' dy rec' (K_X6_goOn1_38 H' s ti tf Z' dy rec') fu Y' i) := by
    intro H H' Z Z' dy rec rec' hr fu
    induction fu with
    | zero => intro Y Y' i y; exact y
    | succ fu ih =>
      intro Y Y' i y
      rw [L_X6_goOn1_38_s, L_X6_goOn1_38_s]
      unfold B_X6_goOn1_38
      rw [y.ls, y.goes, y.fi (f := 704) (by decide), y.leaves, y.fi (f := 810) (by decide), y.reaches]
      split
      · exact hr _ _ _ y
      · split
        · exact ih _ _ _ y
        · split
          · exact ih _ _ _ y
          · split
            · exact ih _ _ _ y
            · exact ih _ _ _ (z_tryRun1 _ _ _ _ _ y)
  have key : ∀ (H H' : Hp) (fu : Nat) (Y Y' : Hp) (dy : Int32), ZX Y Y' → ZX (L_X6_goOn1_19 H s ti tf fu Y dy) (L_X6_goOn1_19 H' s ti tf fu Y' dy) := by
    intro H H' fu
    induction fu with
    | zero => intro Y Y' dy y; exact y
    | succ fu ih =>
      intro Y Y' dy y
      rw [L_X6_goOn1_19_s, L_X6_goOn1_19_s]
      unfold B_X6_goOn1_19
      rw [y.fi (f := 703) (by decide)]
      split
      · exact y
      · split
        · exact y
        · exact inner _ _ _ _ _ _ _ (fun U U' d z => ih U U' d z) _ _ _ _ y
  unfold F_X6_goOn1
  rw [y.fi (f := 702) (by decide)]
  exact key _ _ _ _ _ _ y
theorem z_leaveAt1 (s ti : Int32) {X X' : Hp} (y : ZX X X') : ZX (F_X6_leaveAt1 X s ti) (F_X6_leaveAt1 X' s ti) := by
  unfold F_X6_leaveAt1
  rw [y.fi (f := 704) (by decide), y.tf]
  split
  · exact y
  · exact z_goOn1 _ _ _ y
theorem z_tryRun2 (t : Nat) (dy s ti tf : Int32) {X X' : Hp} (y : ZX X X') : ZX (F_X6_tryRun2 X t dy s ti tf) (F_X6_tryRun2 X' t dy s ti tf) := by
  have key : ∀ (H H' : Hp) (fu : Nat) (Y Y' : Hp) (ab : Int32) (p : Nat), ZX Y Y' → ZX (L_X6_tryRun2_6 H t dy s ti tf fu Y ab p) (L_X6_tryRun2_6 H' t dy s ti tf fu Y' ab p) := by
    intro H H' fu
    induction fu with
    | zero => intro Y Y' ab p y; exact y
    | succ fu ih =>
      intro Y Y' ab p y
      rw [L_X6_tryRun2_6_s, L_X6_tryRun2_6_s]
      unfold B_X6_tryRun2_6
      rw [y.fi (f := 810) (by decide), y.stopAt, y.walk, y.leaves, y.reaches]
      split
      · exact y
      · split
        · exact ih _ _ _ _ y
        · exact ih _ _ _ _ (z_leaveAt1 _ _ y)
  exact key _ _ _ _ _ _ _ y
theorem z_goOn2 (s ti tf : Int32) {X X' : Hp} (y : ZX X X') : ZX (F_X6_goOn2 X s ti tf) (F_X6_goOn2 X' s ti tf) := by
  have inner : ∀ (H H' Z Z' : Hp) (dy : Int32) (rec rec' : Hp → Int32 → Hp), (∀ U U' d, ZX U U' → ZX (rec U d) (rec' U' d)) → ∀ (fu : Nat) (Y Y' : Hp) (i : Nat), ZX Y Y' → ZX (L_X6_goOn2_38 H s ti tf Z dy rec (K_X6_goOn2_38 H s ti tf Z dy rec) fu Y i) (L_X6_goOn2_38 H' s ti tf Z' dy rec' (K_X6_goOn2_38 H' s ti tf Z' dy rec') fu Y' i) := by
    intro H H' Z Z' dy rec rec' hr fu
    induction fu with
    | zero => intro Y Y' i y; exact y
    | succ fu ih =>
      intro Y Y' i y
      rw [L_X6_goOn2_38_s, L_X6_goOn2_38_s]
      unfold B_X6_goOn2_38
      rw [y.ls, y.goes, y.fi (f := 704) (by decide), y.leaves, y.fi (f := 810) (by decide), y.reaches]
      split
      · exact hr _ _ _ y
      · split
        · exact ih _ _ _ y
        · split
          · exact ih _ _ _ y
          · split
            · exact ih _ _ _ y
            · exact ih _ _ _ (z_tryRun2 _ _ _ _ _ y)
  have key : ∀ (H H' : Hp) (fu : Nat) (Y Y' : Hp) (dy : Int32), ZX Y Y' → ZX (L_X6_goOn2_19 H s ti tf fu Y dy) (L_X6_goOn2_19 H' s ti tf fu Y' dy) := by
    intro H H' fu
    induction fu with
    | zero => intro Y Y' dy y; exact y
    | succ fu ih =>
      intro Y Y' dy y
      rw [L_X6_goOn2_19_s, L_X6_goOn2_19_s]
      unfold B_X6_goOn2_19
      rw [y.fi (f := 703) (by decide)]
      split
      · exact y
      · split
        · exact y
        · exact inner _ _ _ _ _ _ _ (fun U U' d z => ih U U' d z) _ _ _ _ y
  unfold F_X6_goOn2
  rw [y.fi (f := 702) (by decide)]
  exact key _ _ _ _ _ _ y
theorem z_anew {h h' : Hp} (x : ZX h h') (a b ti n : Int32) : SA (F_X8_arrivalAnew h a b ti n) (F_X8_arrivalAnew h' a b ti n) := by
  have s0 : ZX (sFI (sFI (sFI (sFI h 701 0 b) 702 0 (F_X8_firstDayFor ti)) 703 0 (F_X8_lastDayFor ti)) 704 0 1000000000) (sFI (sFI (sFI (sFI h' 701 0 b) 702 0 (F_X8_firstDayFor ti)) 703 0 (F_X8_lastDayFor ti)) 704 0 1000000000) := (((x.sfiw _ _ _).sfiw _ _ _).sfiw _ _ _).sfiw _ _ _
  have k : (F_X6_tryAll h' a b ti n).1 = (F_X6_tryAll h a b ti n).1 ∧ ZX (F_X6_tryAll h a b ti n).2 (F_X6_tryAll h' a b ti n).2 := by
    unfold F_X6_tryAll F_X6_tryAll1 F_X6_tryAll2
    split
    · have z := z_goOn1 a ti 0 s0
      exact ⟨by rw [z.fi (f := 704) (by decide)], z⟩
    · have z := z_goOn2 a ti 0 s0
      exact ⟨by rw [z.fi (f := 704) (by decide)], z⟩
  have eW' : eW h' a b = eW h a b := by unfold eW okS; rw [x.fi (f := 403) (by decide)]
  unfold F_X8_arrivalAnew okW okS
  rw [x.fi (f := 403) (by decide), k.1, eW']
  repeat' split
  all_goals first | exact SA.i x | exact ⟨rfl, k.2⟩
theorem z_ok {h h' : Hp} (x : ZX h h') (a b ti : Int32) : (okW h' a b ti ↔ okW h a b ti) ∧ eW h' a b = eW h a b := by
  constructor
  · unfold okW okS; rw [x.fi (f := 403) (by decide)]
  · unfold eW okS; rw [x.fi (f := 403) (by decide)]
/-- the calls that seek: the same answer, and the same heap behind what was sought -/
def SB (h h' : Hp) (r r' : Rs × Hp) : Prop := r' = r ∨ ∃ e, r = (.inr e, h) ∧ r' = (.inr e, h')
theorem z_arrival {h h' : Hp} (x : ZX h h') (a b ti n : Int32) : SB h h' (F_X8_arrival h a b ti n) (F_X8_arrival h' a b ti n) := by
  unfold F_X8_arrival
  rw [seek_eq x, (z_ok x a b ti).2]
  by_cases c : okW h a b ti
  · rw [if_pos c, if_pos ((z_ok x a b ti).1.mpr c)]
    split
    · exact .inl rfl
    · exact .inr ⟨_, rfl, rfl⟩
  · rw [if_neg c, if_neg (fun q => c ((z_ok x a b ti).1.mp q))]
    exact .inr ⟨_, rfl, rfl⟩
theorem z_front {h h' : Hp} (x : ZX h h') (a b ti : Int32) : SB h h' (F_X8_front h a b ti) (F_X8_front h' a b ti) := by
  have key : ∀ (fu : Nat) (le su : Int32) (k : Nat), 5 < k + fu → k ≤ 5 → L_X8_front_28 h' a b ti fu le su k = L_X8_front_28 h a b ti fu le su k := by
    intro fu
    induction fu with
    | zero => intro le su k h1 h2; omega
    | succ fu ih =>
      intro le su k h1 h2
      rw [L_X8_front_28_s, L_X8_front_28_s]
      unfold B_X8_front_28
      rw [seek_eq x]
      split
      · rfl
      · rename_i hk
        have := cy_le4 (by omega) hk
        split
        · exact ih _ _ _ (by omega) (by omega)
        · exact ih _ _ _ (by omega) (by omega)
  unfold F_X8_front
  rw [(z_ok x a b ti).2]
  by_cases c : okW h a b ti
  · rw [if_pos c, if_pos ((z_ok x a b ti).1.mpr c), key _ _ _ _ (by omega) (by omega)]
    exact .inl rfl
  · rw [if_neg c, if_neg (fun q => c ((z_ok x a b ti).1.mp q))]
    exact .inr ⟨_, rfl, rfl⟩
theorem z_best {h h' : Hp} (x : ZX h h') (a b ti : Int32) : SB h h' (F_X8_best h a b ti) (F_X8_best h' a b ti) := by
  have key : ∀ (fu : Nat), L_X8_best_27 h' a b ti (fu + 1) = L_X8_best_27 h a b ti (fu + 1) ∨ True := fun _ => .inr trivial
  have key : ∀ (fu : Nat) (H : Hp) (ch : Int32) (le : UInt64) (k : Nat), 5 < k + fu → k ≤ 5 → L_X8_best_27 h' a b ti fu H ch le k = L_X8_best_27 h a b ti fu H ch le k := by
    intro fu
    induction fu with
    | zero => intro H ch le k h1 h2; omega
    | succ fu ih =>
      intro H ch le k h1 h2
      rw [L_X8_best_27_s, L_X8_best_27_s]
      unfold B_X8_best_27
      by_cases hk : 4 < nI k
      · rw [if_pos hk, if_pos hk]
      · have := cy_le4 (by omega) hk
        rw [if_neg hk, if_neg hk]
        repeat' split
        all_goals exact ih _ _ _ _ (by omega) (by omega)
  unfold F_X8_best
  rw [seek_eq x, (z_ok x a b ti).2]
  by_cases c : okW h a b ti
  · rw [if_pos c, if_pos ((z_ok x a b ti).1.mpr c), key _ _ _ _ _ (by omega) (by omega)]
    exact .inl rfl
  · rw [if_neg c, if_neg (fun q => c ((z_ok x a b ti).1.mp q))]
    exact .inr ⟨_, rfl, rfl⟩
theorem z_ride {h h' : Hp} (x : ZX h h') (a b ti n ri wh : Int32) : SB h h' (F_X8_ride h a b ti n ri wh) (F_X8_ride h' a b ti n ri wh) := by
  unfold F_X8_ride
  rw [seek_eq x, (z_ok x a b ti).2]
  by_cases c : okW h a b ti
  · rw [if_pos c, if_pos ((z_ok x a b ti).1.mpr c)]
    repeat' split
    all_goals first | exact .inl rfl | exact .inr ⟨_, rfl, rfl⟩
  · rw [if_neg c, if_neg (fun q => c ((z_ok x a b ti).1.mp q))]
    exact .inr ⟨_, rfl, rfl⟩
theorem z_journey {h h' : Hp} (x : ZX h h') (a b ti n wh : Int32) : SB h h' (F_X8_journey h a b ti n wh) (F_X8_journey h' a b ti n wh) := by
  unfold F_X8_journey
  rw [seek_eq x, (z_ok x a b ti).2]
  by_cases c : okW h a b ti
  · rw [if_pos c, if_pos ((z_ok x a b ti).1.mpr c)]
    repeat' split
    all_goals first | exact .inl rfl | exact .inr ⟨_, rfl, rfl⟩
  · rw [if_neg c, if_neg (fun q => c ((z_ok x a b ti).1.mp q))]
    exact .inr ⟨_, rfl, rfl⟩
theorem z_book {h h' : Hp} (x : ZX h h') (a b ti n : Int32) : SB h h' (F_X8_book h a b ti n) (F_X8_book h' a b ti n) := by
  unfold F_X8_book
  rw [seek_eq x, (z_ok x a b ti).2]
  by_cases c : okW h a b ti
  · rw [if_pos c, if_pos ((z_ok x a b ti).1.mpr c)]
    repeat' split
    all_goals first | exact .inl rfl | exact .inr ⟨_, rfl, rfl⟩
  · rw [if_neg c, if_neg (fun q => c ((z_ok x a b ti).1.mp q))]
    exact .inr ⟨_, rfl, rfl⟩
