/-! ===== own: the way and its telling (out of whole) ===== -/
def Way (h : Hp) (n0 : Nat) (R E : Nat → Nat → Int) (fd ld b n : Nat) (e : Int) (at' t d i j : Nat → Nat) : Prop :=
  LSt h n0 (E n) b e (at' n) ∧ ∀ m, m < n → FR h (R m) (E (m + 1)) fd ld (at' (m + 1)) (t m) (d m) (i m) (j m) ∧ (m ≠ 0 → AH h n0 (E m) (stN h (t m) (i m)) (dpI h (t m) (d m) (i m)) (at' m))
theorem way_ex {h HC : Hp} {n0 n a b ti : Nat} (w : World h n0) (sm : Small h n0) (hti : ti ≤ 140000) (c : SearchC h HC n0 n a b ti) : ∀ k, k ≤ n → ∀ s, s < n0 → (k ≠ 0 → Ec HC k s < 1000000000) →
    ∃ at' t d i j : Nat → Nat, at' k = s ∧ ∀ m, m < k → FR h (Rc HC m) (Ec HC (m + 1)) (ti / 1440 - 1) (ti / 1440 + 1) (at' (m + 1)) (t m) (d m) (i m) (j m) ∧ (m ≠ 0 → AH h n0 (Ec HC m) (stN h (t m) (i m)) (dpI h (t m) (d m) (i m)) (at' m)) := by
  obtain ⟨-, -, -, -, -, -, c0, cs⟩ := c
  have hld : ti / 1440 + 1 < 100 := by omega
  intro k
  induction k with
  | zero =>
    intro _ s _ _
    exact ⟨fun _ => s, fun _ => 0, fun _ => 0, fun _ => 0, fun _ => 0, rfl, fun m hm => absurd hm (Nat.not_lt_zero _)⟩
  | succ k ih =>
    intro hk s hs hE
    have hE := hE (by omega)
    obtain ⟨l1, -⟩ := cs k (by omega) s hs
    have c1 : CandT h (Rc HC k) (ti / 1440 - 1) (ti / 1440 + 1) (xLS h 11) s (Ec HC (k + 1) s) := by
      rcases l1 with ⟨e, _⟩ | ⟨q, _⟩
      · omega
      · exact q
    obtain ⟨t0, d0, i0, j0, f⟩ := FR.ex c1
    have f' := f
    obtain ⟨f1, f2, f3, f4, -⟩ := f'
    have hi : i0 < lnN h t0 := by
      have := f4.2.1
      have := f4.2.2.1
      omega
    have hb0 := ((w.2.2.2 t0 f1).2.2.2.1 i0 hi).2
    have hdp := (((w.2.2.2 t0 f1).2.2.2.2 d0 (by omega) f4.1).1 i0 hi).2
    by_cases k0 : k = 0
    · subst k0
      refine ⟨fun _ => s, fun _ => t0, fun _ => d0, fun _ => i0, fun _ => j0, rfl, fun m hm => ?_⟩
      obtain rfl : m = 0 := by omega
      exact ⟨f, fun z => absurd rfl z⟩
    · obtain ⟨k', rfl⟩ : ∃ k', k = k' + 1 := ⟨k - 1, by omega⟩
      obtain ⟨-, l2⟩ := cs k' (by omega) (stN h t0 i0) hb0
      have hR := f4.2.2.2.2.2
      have ex : ∃ s', AH h n0 (Ec HC (k' + 1)) (stN h t0 i0) (dpI h t0 d0 i0) s' := by
        rcases l2 with ⟨e, _⟩ | ⟨⟨x, x1, x2, x3, x4⟩, _⟩
        · omega
        · exact AH.ex hb0 x1 ⟨x3, by omega⟩
      obtain ⟨s', ah⟩ := ex
      have hs' := ah.1
      obtain ⟨o1, o2⟩ := ah.2.1
      have := (sm s' (stN h t0 i0) hs' hb0).resolve_left o1
      obtain ⟨at', t, d, i, j, e, g⟩ := ih (by omega) s' hs' (fun _ => by omega)
      refine ⟨fun m => if m = k' + 1 + 1 then s else at' m, fun m => if m = k' + 1 then t0 else t m, fun m => if m = k' + 1 then d0 else d m, fun m => if m = k' + 1 then i0 else i m, fun m => if m = k' + 1 then j0 else j m, if_pos rfl, fun m hm => ?_⟩
      by_cases em : m = k' + 1
      · subst em
        simp only [if_pos rfl, if_neg (show ¬ k' + 1 = k' + 1 + 1 by omega)]
        exact ⟨f, fun _ => by rw [e]; exact ah⟩
      · simp only [if_neg em, if_neg (show ¬ m + 1 = k' + 1 + 1 by omega), if_neg (show ¬ m = k' + 1 + 1 by omega)]
        exact g m (by omega)
def TQ (h X : Hp) : Prop := (∀ s i j, xAI X s i j = xAI h s i j) ∧ (∀ f, f / 100 ≠ 5 → f / 100 ≠ 3 → ∀ i, xFI X f i = xFI h f i) ∧ (∀ f, f / 100 ≠ 5 → f / 100 ≠ 3 → ∀ i, xFR X f i = xFR h f i) ∧ xLS X = xLS h
theorem TQ.rf {h : Hp} : TQ h h := ⟨fun _ _ _ => rfl, fun _ _ _ _ => rfl, fun _ _ _ _ => rfl, rfl⟩
theorem TQ.trans {a b c : Hp} (x : TQ a b) (y : TQ b c) : TQ a c := ⟨fun s i j => (y.1 s i j).trans (x.1 s i j), fun f h5 h3 i => (y.2.1 f h5 h3 i).trans (x.2.1 f h5 h3 i), fun f h5 h3 i => (y.2.2.1 f h5 h3 i).trans (x.2.2.1 f h5 h3 i), y.2.2.2.trans x.2.2.2⟩
theorem TQ.ln {h X : Hp} (q : TQ h X) (s : Nat) : cy_ln X s = cy_ln h s := by
  unfold cy_ln
  rw [q.2.2.2]
theorem TQ.at {h X : Hp} (q : TQ h X) (s i : Nat) (x : Int32) : F_at X s i x = F_at h s i x := by
  unfold F_at
  rw [q.ln, q.1]
theorem TQ.go {h X : Hp} (q : TQ h X) (t : Nat) (d : Int32) : F_X7_goes X t d = F_X7_goes h t d := by
  unfold F_X7_goes F_X7_isThere
  rw [q.at, q.1]
theorem TQ.lv {h X : Hp} (q : TQ h X) (t : Nat) (d p : Int32) : F_X7_leaves X t d p = F_X7_leaves h t d p := by
  unfold F_X7_leaves
  rw [q.at, q.at]
theorem TQ.re {h X : Hp} (q : TQ h X) (t : Nat) (d p : Int32) : F_X7_reaches X t d p = F_X7_reaches h t d p := by
  unfold F_X7_reaches
  rw [q.at, q.at]
theorem TQ.so {h X : Hp} (q : TQ h X) (t : Nat) (p : Int32) : F_X7_stopAt X t p = F_X7_stopAt h t p := by
  unfold F_X7_stopAt
  rw [q.at]
theorem TQ.eSt {h X : Hp} (q : TQ h X) (t p : Nat) : stN X t p = stN h t p := by unfold stN; rw [q.1]
theorem TQ.eLn {h X : Hp} (q : TQ h X) (t : Nat) : lnN X t = lnN h t := by unfold lnN; rw [q.2.1 810 (by decide) (by decide)]
theorem TQ.eDp {h X : Hp} (q : TQ h X) (t d p : Nat) : dpI X t d p = dpI h t d p := by unfold dpI; rw [q.lv]
theorem TQ.eAr {h X : Hp} (q : TQ h X) (t d p : Nat) : arI X t d p = arI h t d p := by unfold arI; rw [q.re]
theorem TQ.eGo {h X : Hp} (q : TQ h X) (t d : Nat) : goN X t d = goN h t d := by unfold goN; rw [q.go]
theorem TQ.eCh {h X : Hp} (q : TQ h X) (a s : Nat) : chI X a s = chI h a s := by unfold chI; rw [q.1, q.1]
theorem TQ.eTo {h X : Hp} (q : TQ h X) (b s : Nat) : toB X b s = toB h b s := by unfold toB; rw [q.1]
theorem TQ.eEc {h X : Hp} (q : TQ h X) (k : Nat) : Ec X k = Ec h k := by funext s; unfold Ec; rw [q.1]
theorem TQ.eRc {h X : Hp} (q : TQ h X) (k : Nat) : Rc X k = Rc h k := by funext s; unfold Rc; rw [q.1]
theorem TQ.fr {h X : Hp} (q : TQ h X) {R E : Nat → Int} {fd ld s t d i j : Nat} (f : FR h R E fd ld s t d i j) : FR X R E fd ld s t d i j := by
  unfold FR IsR at f ⊢
  rw [q.2.2.2]
  simp only [q.eSt, q.eLn, q.eDp, q.eAr, q.eGo]
  exact f
theorem TQ.ah {h X : Hp} (q : TQ h X) {n0 b s : Nat} {E : Nat → Int} {dep : Int} (f : AH h n0 E b dep s) : AH X n0 E b dep s := by
  unfold AH OKA at f ⊢
  simp only [q.eCh]
  exact f
theorem TQ.small {h X : Hp} (q : TQ h X) {n0 : Nat} (f : Small h n0) : Small X n0 := fun a s ha hs => by rw [q.eCh]; exact f a s ha hs
theorem TQ.world {h X : Hp} (q : TQ h X) {n0 : Nat} (w : World h n0) : World X n0 := by
  refine ⟨w.1, (q.2.1 403 (by decide) (by decide) 0).trans w.2.1, by rw [q.2.2.2]; exact w.2.2.1, fun t ht => ?_⟩
  rw [q.2.2.2] at ht
  obtain ⟨a, b, c, e, f⟩ := w.2.2.2 t ht
  rw [q.eLn]
  refine ⟨a, b, (q.2.1 810 (by decide) (by decide) t).trans c, fun p hp => ?_, fun d hd hg => ?_⟩
  · rw [q.so, q.eSt]
    exact e p hp
  · have := f d hd (by rw [← q.eGo]; exact hg)
    simp only [q.eDp, q.eAr]
    exact this
theorem TQ.sfi {h : Hp} {k i : Nat} {v : Int32} (hk : k / 100 = 5 ∨ k / 100 = 3) : TQ h (sFI h k i v) := ⟨fun _ _ _ => rfl, fun f h5 h3 i' => by
  rw [fi_fi, if_neg (fun z => by
    obtain ⟨z, _⟩ := z
    subst z
    omega)], fun _ _ _ _ => rfl, rfl⟩
theorem TQ.sfr {h : Hp} {k i : Nat} {v : Option Nat} (hk : k / 100 = 5 ∨ k / 100 = 3) : TQ h (sFR h k i v) := ⟨fun _ _ _ => rfl, fun _ _ _ _ => rfl, fun f h5 h3 i' => if_neg (fun z => by
    obtain ⟨z, _⟩ := z
    subst z
    omega), rfl⟩
theorem TQ.sno {h : Hp} {s : Nat} (hs : s = 5 ∨ s = 3) : TQ h (sNO h s) := ⟨fun _ _ _ => rfl, fun f h5 h3 i => if_neg (fun z => by
    have := z.1
    rcases hs with rfl | rfl <;> omega), fun f h5 h3 i => if_neg (fun z => by
    have := z.1
    rcases hs with rfl | rfl <;> omega), rfl⟩
theorem TQ.ride {h : Hp} {t : Nat} {dy bo le : Int32} {o : Option Nat} : TQ h (F_X4_init (sNO h 5) (xCN h 5) t dy bo le o) :=
  (((((TQ.sno (.inl rfl)).trans (TQ.sfr (.inl rfl))).trans (TQ.sfi (.inl rfl))).trans (TQ.sfi (.inl rfl))).trans (TQ.sfi (.inl rfl))).trans (TQ.sfr (.inl rfl))
theorem fr_fr (h : Hp) (k i : Nat) (v : Option Nat) (k' i' : Nat) : xFR (sFR h k i v) k' i' = if k' = k ∧ i' = i then v else xFR h k' i' := rfl
theorem fi_ne {h : Hp} {k i : Nat} {v : Int32} {k' i' : Nat} (hk : ¬ k' = k) : xFI (sFI h k i v) k' i' = xFI h k' i' := by rw [fi_fi, if_neg (fun z => hk z.1)]
theorem fi_ni {h : Hp} {k i : Nat} {v : Int32} {k' i' : Nat} (hk : ¬ i' = i) : xFI (sFI h k i v) k' i' = xFI h k' i' := by rw [fi_fi, if_neg (fun z => hk z.2)]
theorem fr_ne {h : Hp} {k i : Nat} {v : Option Nat} {k' i' : Nat} (hk : ¬ k' = k) : xFR (sFR h k i v) k' i' = xFR h k' i' := by rw [fr_fr, if_neg (fun z => hk z.1)]
theorem fr_ni {h : Hp} {k i : Nat} {v : Option Nat} {k' i' : Nat} (hk : ¬ i' = i) : xFR (sFR h k i v) k' i' = xFR h k' i' := by rw [fr_fr, if_neg (fun z => hk z.2)]
theorem fi_eq {h : Hp} {k i : Nat} {v : Int32} : xFI (sFI h k i v) k i = v := by rw [fi_fi, if_pos ⟨rfl, rfl⟩]
theorem fr_eq {h : Hp} {k i : Nat} {v : Option Nat} : xFR (sFR h k i v) k i = v := by rw [fr_fr, if_pos ⟨rfl, rfl⟩]
theorem fi_sfr (h : Hp) (k i : Nat) (v : Option Nat) (k' i' : Nat) : xFI (sFR h k i v) k' i' = xFI h k' i' := rfl
theorem fr_sfi (h : Hp) (k i : Nat) (v : Int32) (k' i' : Nat) : xFR (sFI h k i v) k' i' = xFR h k' i' := rfl
theorem no_fi {h : Hp} {s k i : Nat} (hi : ¬ i = xCN h s) : xFI (sNO h s) k i = xFI h k i := if_neg (fun z => hi z.2)
theorem no_fr {h : Hp} {s k i : Nat} (hi : ¬ i = xCN h s) : xFR (sNO h s) k i = xFR h k i := if_neg (fun z => hi z.2)
theorem init_at {h : Hp} {r t : Nat} {dy bo le : Int32} {o : Option Nat} : xFR (F_X4_init h r t dy bo le o) 500 r = some t ∧ xFR (F_X4_init h r t dy bo le o) 504 r = o ∧ xFI (F_X4_init h r t dy bo le o) 501 r = dy ∧ xFI (F_X4_init h r t dy bo le o) 502 r = bo ∧ xFI (F_X4_init h r t dy bo le o) 503 r = le := by
  unfold F_X4_init
  refine ⟨?_, fr_eq, ?_, ?_, ?_⟩
  · rw [fr_ne (by decide), fr_sfi, fr_sfi, fr_sfi, fr_eq]
  · rw [fi_sfr, fi_ne (by decide), fi_ne (by decide), fi_eq]
  · rw [fi_sfr, fi_ne (by decide), fi_eq]
  · rw [fi_sfr, fi_eq]
theorem init_ot {h : Hp} {t : Nat} {dy bo le : Int32} {o : Option Nat} {r : Nat} (hr : ¬ r = xCN h 5) (k : Nat) : xFR (F_X4_init (sNO h 5) (xCN h 5) t dy bo le o) k r = xFR h k r ∧ xFI (F_X4_init (sNO h 5) (xCN h 5) t dy bo le o) k r = xFI h k r := by
  unfold F_X4_init
  refine ⟨?_, ?_⟩
  · rw [fr_ni hr, fr_sfi, fr_sfi, fr_sfi, fr_ni hr, no_fr hr]
  · rw [fi_sfr, fi_ni hr, fi_ni hr, fi_ni hr, fi_sfr, no_fi hr]
theorem init_cn {h : Hp} {t : Nat} {dy bo le : Int32} {o : Option Nat} : xCN (F_X4_init (sNO h 5) (xCN h 5) t dy bo le o) 5 = xCN h 5 + 1 ∧ xCN (F_X4_init (sNO h 5) (xCN h 5) t dy bo le o) 3 = xCN h 3 := ⟨up1_eq (f := xCN h) (a := 5) (v := xCN h 5 + 1), up1_ne (f := xCN h) (a := 5) (x := 3) (v := xCN h 5 + 1) (by decide)⟩
def rid (c n m : Nat) : Nat := c + (n - 1 - m)
def Told (h X : Hp) (c n m : Nat) (t d i j : Nat → Nat) (cg : Nat → Int32) : Prop :=
  TQ h X ∧ xCN X 5 = c + (n - m) ∧ xCN X 3 = xCN h 3 ∧ ∀ x, m ≤ x → x < n → xFR X 500 (rid c n x) = some (t x) ∧ xFR X 504 (rid c n x) = (if x + 1 < n then some (rid c n (x + 1)) else none) ∧
    xFI X 501 (rid c n x) = nI (d x) ∧ xFI X 502 (rid c n x) = nI (i x) ∧ xFI X 503 (rid c n x) = nI (j x) ∧ xFI X 505 (rid c n x) = cg x
theorem Told.step {h X : Hp} {c n m : Nat} {t d i j : Nat → Nat} {cg : Nat → Int32} (hm : m < n) (q : Told h X c n (m + 1) t d i j cg) {o : Option Nat} (ho : o = if m + 1 < n then some (rid c n (m + 1)) else none) {v : Int32} (hv : v = cg m) :
    Told h (sFI (F_X4_init (sNO X 5) (xCN X 5) (t m) (nI (d m)) (nI (i m)) (nI (j m)) o) 505 (xCN X 5) v) c n m t d i j cg := by
  obtain ⟨q1, q2, q3, q4⟩ := q
  have er : xCN X 5 = rid c n m := by rw [q2]; unfold rid; omega
  refine ⟨(q1.trans TQ.ride).trans (TQ.sfi (.inl rfl)), ?_, ?_, fun x hx hxn => ?_⟩
  · show xCN (F_X4_init (sNO X 5) (xCN X 5) (t m) (nI (d m)) (nI (i m)) (nI (j m)) o) 5 = _
    rw [init_cn.1, q2]
    omega
  · show xCN (F_X4_init (sNO X 5) (xCN X 5) (t m) (nI (d m)) (nI (i m)) (nI (j m)) o) 3 = _
    rw [init_cn.2, q3]
  · by_cases e : x = m
    · subst e
      rw [← er]
      obtain ⟨a1, a2, a3, a4, a5⟩ := init_at (h := sNO X 5) (r := xCN X 5) (t := t x) (dy := nI (d x)) (bo := nI (i x)) (le := nI (j x)) (o := o)
      rw [fr_sfi, fr_sfi, fi_ne (by decide), fi_ne (by decide), fi_ne (by decide), fi_eq]
      exact ⟨a1, a2.trans ho, a3, a4, a5, hv⟩
    · obtain ⟨b1, b2, b3, b4, b5, b6⟩ := q4 x (by omega) hxn
      have hr : ¬ rid c n x = xCN X 5 := by rw [er]; unfold rid; omega
      rw [fr_sfi, fr_sfi, fi_ni hr, fi_ni hr, fi_ni hr, fi_ni hr, (init_ot hr _).1, (init_ot hr _).1, (init_ot hr _).2, (init_ot hr _).2, (init_ot hr _).2, (init_ot hr _).2]
      exact ⟨b1, b2, b3, b4, b5, b6⟩
