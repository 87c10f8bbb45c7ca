/-! ===== own: the class tells the way ===== -/
theorem TQ.sno {h : Hp} {s : Nat} (hs : s = 5 ∨ s = 3) : TQ h (sNO h s) := ⟨fun _ _ _ => rfl, fun f h5 h3 i => if_neg (fun z => by
    have := z.1
    rcases hs with rfl | rfl <;> omega), fun f h5 h3 i => if_neg (fun z => by
    have := z.1
    rcases hs with rfl | rfl <;> omega), rfl⟩
theorem TQ.ride {h : Hp} {t : Nat} {dy bo le : Int32} {o : Option Nat} : TQ h (F_X4_init (sNO h 5) (xCN h 5) t dy bo le o) :=
  (((((TQ.sno (.inl rfl)).trans (TQ.sfr (.inl rfl))).trans (TQ.sfi (.inl rfl))).trans (TQ.sfi (.inl rfl))).trans (TQ.sfi (.inl rfl))).trans (TQ.sfr (.inl rfl))
theorem fr_fr (h : Hp) (k i : Nat) (v : Option Nat) (k' i' : Nat) : xFR (sFR h k i v) k' i' = if k' = k ∧ i' = i then v else xFR h k' i' := rfl
theorem fi_ne {h : Hp} {k i : Nat} {v : Int32} {k' i' : Nat} (hk : ¬ k' = k) : xFI (sFI h k i v) k' i' = xFI h k' i' := by rw [fi_fi, if_neg (fun z => hk z.1)]
theorem fi_ni {h : Hp} {k i : Nat} {v : Int32} {k' i' : Nat} (hk : ¬ i' = i) : xFI (sFI h k i v) k' i' = xFI h k' i' := by rw [fi_fi, if_neg (fun z => hk z.2)]
theorem fr_ne {h : Hp} {k i : Nat} {v : Option Nat} {k' i' : Nat} (hk : ¬ k' = k) : xFR (sFR h k i v) k' i' = xFR h k' i' := by rw [fr_fr, if_neg (fun z => hk z.1)]
theorem fr_ni {h : Hp} {k i : Nat} {v : Option Nat} {k' i' : Nat} (hk : ¬ i' = i) : xFR (sFR h k i v) k' i' = xFR h k' i' := by rw [fr_fr, if_neg (fun z => hk z.2)]
theorem fi_eq {h : Hp} {k i : Nat} {v : Int32} : xFI (sFI h k i v) k i = v := by rw [fi_fi, if_pos ⟨rfl, rfl⟩]
theorem fr_eq {h : Hp} {k i : Nat} {v : Option Nat} : xFR (sFR h k i v) k i = v := by rw [fr_fr, if_pos ⟨rfl, rfl⟩]
theorem fi_sfr (h : Hp) (k i : Nat) (v : Option Nat) (k' i' : Nat) : xFI (sFR h k i v) k' i' = xFI h k' i' := rfl
theorem fr_sfi (h : Hp) (k i : Nat) (v : Int32) (k' i' : Nat) : xFR (sFI h k i v) k' i' = xFR h k' i' := rfl
theorem no_fi {h : Hp} {s k i : Nat} (hi : ¬ i = xCN h s) : xFI (sNO h s) k i = xFI h k i := if_neg (fun z => hi z.2)
theorem no_fr {h : Hp} {s k i : Nat} (hi : ¬ i = xCN h s) : xFR (sNO h s) k i = xFR h k i := if_neg (fun z => hi z.2)
theorem init_at {h : Hp} {r t : Nat} {dy bo le : Int32} {o : Option Nat} : xFR (F_X4_init h r t dy bo le o) 500 r = some t ∧ xFR (F_X4_init h r t dy bo le o) 504 r = o ∧ xFI (F_X4_init h r t dy bo le o) 501 r = dy ∧ xFI (F_X4_init h r t dy bo le o) 502 r = bo ∧ xFI (F_X4_init h r t dy bo le o) 503 r = le := by
  unfold F_X4_init
  refine ⟨?_, fr_eq, ?_, ?_, ?_⟩
  · rw [fr_ne (by decide), fr_sfi, fr_sfi, fr_sfi, fr_eq]
  · rw [fi_sfr, fi_ne (by decide), fi_ne (by decide), fi_eq]
  · rw [fi_sfr, fi_ne (by decide), fi_eq]
  · rw [fi_sfr, fi_eq]
theorem init_ot {h : Hp} {t : Nat} {dy bo le : Int32} {o : Option Nat} {r : Nat} (hr : ¬ r = xCN h 5) (k : Nat) : xFR (F_X4_init (sNO h 5) (xCN h 5) t dy bo le o) k r = xFR h k r ∧ xFI (F_X4_init (sNO h 5) (xCN h 5) t dy bo le o) k r = xFI h k r := by
  unfold F_X4_init
  refine ⟨?_, ?_⟩
  · rw [fr_ni hr, fr_sfi, fr_sfi, fr_sfi, fr_ni hr, no_fr hr]
  · rw [fi_sfr, fi_ni hr, fi_ni hr, fi_ni hr, fi_sfr, no_fi hr]
theorem init_cn {h : Hp} {t : Nat} {dy bo le : Int32} {o : Option Nat} : xCN (F_X4_init (sNO h 5) (xCN h 5) t dy bo le o) 5 = xCN h 5 + 1 ∧ xCN (F_X4_init (sNO h 5) (xCN h 5) t dy bo le o) 3 = xCN h 3 := ⟨up1_eq (f := xCN h) (a := 5) (v := xCN h 5 + 1), up1_ne (f := xCN h) (a := 5) (x := 3) (v := xCN h 5 + 1) (by decide)⟩
/-- ride m's object -/
def rid (c n m : Nat) : Nat := c + (n - 1 - m)
/-- rides m and behind are told -/
def Told (h X : Hp) (c n m : Nat) (t d i j : Nat → Nat) (cg : Nat → Int32) : Prop :=
  TQ h X ∧ xCN X 5 = c + (n - m) ∧ xCN X 3 = xCN h 3 ∧ ∀ x, m ≤ x → x < n → xFR X 500 (rid c n x) = some (t x) ∧ xFR X 504 (rid c n x) = (if x + 1 < n then some (rid c n (x + 1)) else none) ∧
    xFI X 501 (rid c n x) = nI (d x) ∧ xFI X 502 (rid c n x) = nI (i x) ∧ xFI X 503 (rid c n x) = nI (j x) ∧ xFI X 505 (rid c n x) = cg x
theorem Told.step {h X : Hp} {c n m : Nat} {t d i j : Nat → Nat} {cg : Nat → Int32} (hm : m < n) (q : Told h X c n (m + 1) t d i j cg) {o : Option Nat} (ho : o = if m + 1 < n then some (rid c n (m + 1)) else none) {v : Int32} (hv : v = cg m) :
    Told h (sFI (F_X4_init (sNO X 5) (xCN X 5) (t m) (nI (d m)) (nI (i m)) (nI (j m)) o) 505 (xCN X 5) v) c n m t d i j cg := by
  obtain ⟨q1, q2, q3, q4⟩ := q
  have er : xCN X 5 = rid c n m := by rw [q2]; unfold rid; omega
  refine ⟨(q1.trans TQ.ride).trans (TQ.sfi (.inl rfl)), ?_, ?_, fun x hx hxn => ?_⟩
  · show xCN (F_X4_init (sNO X 5) (xCN X 5) (t m) (nI (d m)) (nI (i m)) (nI (j m)) o) 5 = _
    rw [init_cn.1, q2]
    omega
  · show xCN (F_X4_init (sNO X 5) (xCN X 5) (t m) (nI (d m)) (nI (i m)) (nI (j m)) o) 3 = _
    rw [init_cn.2, q3]
  · by_cases e : x = m
    · subst e
      rw [← er]
      obtain ⟨a1, a2, a3, a4, a5⟩ := init_at (h := sNO X 5) (r := xCN X 5) (t := t x) (dy := nI (d x)) (bo := nI (i x)) (le := nI (j x)) (o := o)
      rw [fr_sfi, fr_sfi, fi_ne (by decide), fi_ne (by decide), fi_ne (by decide), fi_eq]
      exact ⟨a1, a2.trans ho, a3, a4, a5, hv⟩
    · obtain ⟨b1, b2, b3, b4, b5, b6⟩ := q4 x (by omega) hxn
      have hr : ¬ rid c n x = xCN X 5 := by rw [er]; unfold rid; omega
      rw [fr_sfi, fr_sfi, fi_ni hr, fi_ni hr, fi_ni hr, fi_ni hr, (init_ot hr _).1, (init_ot hr _).1, (init_ot hr _).2, (init_ot hr _).2, (init_ot hr _).2, (init_ot hr _).2]
      exact ⟨b1, b2, b3, b4, b5, b6⟩
