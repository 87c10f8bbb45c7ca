/-! ===== own: setting out, seeking (out of whole) ===== -/
theorem nI_quo2 {a : Nat} (ha : a ≤ 1000000) : nI a / 1440 = nI (a / 1440) := by
  apply Int32.toInt_inj.mp
  have e0 : (1440 : Int32).toInt = 1440 := by decide
  have hq : a / 1440 ≤ 1000000 := Nat.le_trans (Nat.div_le_self _ _) ha
  rw [Int32.toInt_div, nI_toInt (by omega), e0, nI_toInt (by omega), Int.tdiv_eq_ediv_of_nonneg (by omega)]
  refine Int.bmod_eq_of_le ?_ ?_ <;> omega
theorem first_at {t : Nat} (ht : t ≤ 140000) : F_X8_firstDayFor (nI t) = nI (t / 1440 - 1) := by
  unfold F_X8_firstDayFor
  rw [nI_quo2 (by omega)]
  have hq : t / 1440 ≤ 97 := by omega
  generalize t / 1440 = q at hq
  by_cases c : q = 0
  · subst c
    decide
  · obtain ⟨m, rfl⟩ : ∃ m, q = m + 1 := ⟨q - 1, by omega⟩
    rw [nI_pred, Nat.add_sub_cancel]
    by_cases c2 : m = 0
    · subst c2
      decide
    · rw [if_pos (c := (0 : Int32) < nI m) ((nI_ltI (a := 0) (b := m) (by decide) (by omega)).mpr (by omega))]
theorem last_at {t : Nat} (ht : t ≤ 140000) : F_X8_lastDayFor (nI t) = nI (t / 1440 + 1) := by
  unfold F_X8_lastDayFor
  rw [nI_quo2 (by omega), show nI (t / 1440) + 1 = nI (t / 1440 + 1) from nI_add _ 1]
  have hq : t / 1440 ≤ 97 := by omega
  rw [if_pos (c := nI (t / 1440 + 1) < (99 : Int32)) ((nI_ltI (a := t / 1440 + 1) (b := 99) (by omega) (by decide)).mpr (by omega))]
theorem CandT.cg {h : Hp} {n0 : Nat} (w : World h n0) {R R' : Nat → Int} {fd ld : Nat} (e : ∀ s, s < n0 → R' s = R s) (s : Nat) (a : Int) : CandT h R' fd ld (xLS h 11) s a ↔ CandT h R fd ld (xLS h 11) s a := by
  have one : ∀ {X Y : Nat → Int}, (∀ s, s < n0 → X s = Y s) → CandT h X fd ld (xLS h 11) s a → CandT h Y fd ld (xLS h 11) s a := by
    rintro X Y e ⟨t, d, h1, h2, h3, h4, i, j, h5, h6, h7, h8⟩
    have hi := ((w.2.2.2 t h1).2.2.2.1 i (by omega)).2
    exact ⟨t, d, h1, h2, h3, h4, i, j, h5, h6, by rw [← e _ hi]; exact h7, h8⟩
  exact ⟨one e, one (fun s hs => (e s hs).symm)⟩
theorem Rdy.cg {h : Hp} {n0 : Nat} {E E' : Nat → Int} (e : ∀ s, s < n0 → E' s = E s) (s : Nat) (v : Int) : Rdy h n0 E' s v ↔ Rdy h n0 E s v := by
  constructor
  · rintro ⟨a, h1, h2, h3, h4⟩
    exact ⟨a, h1, by rw [← e a h1]; exact h2, h3, by rw [← e a h1]; exact h4⟩
  · rintro ⟨a, h1, h2, h3, h4⟩
    exact ⟨a, h1, by rw [e a h1]; exact h2, h3, by rw [e a h1]; exact h4⟩
def R0 (h : Hp) (a ti s : Nat) (v : Int) : Prop := (s = a ∧ v = ti) ∨ (s ≠ a ∧ ¬ xAI h 23 0 (10 * a + s) = -1 ∧ v = ti + (xAI h 23 0 (10 * a + s)).toInt)
theorem setOut_spec {h : Hp} {n0 a ti : Nat} (w : World h n0) (sm : Small h n0) (ha : a < n0) (ht : ti ≤ 140000) (e3 : xFI h 603 0 = nI a) (e5 : xFI h 605 0 = nI ti) (h0 : ∀ s, s < 10 → Rc h 0 s = 1000000000) :
    only21 h (F_X5_setOut h) 0 ∧ ∀ s, s < n0 → LO 1000000000 (R0 h a ti s) (Rc (F_X5_setOut h) 0 s) := by
  have h10 := w.1
  have val : ∀ s, s < n0 → ¬ xAI h 23 0 (10 * a + s) = -1 → s ≠ a → (nI ti + xAI h 23 0 (10 * a + s)).toInt = ti + (xAI h 23 0 (10 * a + s)).toInt := by
    intro s hs hn hsa
    have := sm a s ha hs
    unfold chI at this
    rw [if_neg (fun q => hsa q.symm)] at this
    rcases this with z | z
    · exact absurd z hn
    · rw [add_int (by rw [nI_toInt (by omega)]; omega) (by omega), nI_toInt (by omega)]
  have key : ∀ (mm s fu : Nat) (h2 : Hp), s + mm = n0 → mm < fu → only21 h h2 0 → (∀ x, x < s → x ≠ a → LO 1000000000 (R0 h a ti x) (Rc h2 0 x)) → (∀ x, s ≤ x → x < 10 → Rc h2 0 x = 1000000000) →
      only21 h (L_X5_setOut_2 h (K_X5_setOut_2 h) fu h2 s) 0 ∧ ∀ x, x < n0 → LO 1000000000 (R0 h a ti x) (Rc (L_X5_setOut_2 h (K_X5_setOut_2 h) fu h2 s) 0 x) := by
    intro mm
    induction mm with
    | zero =>
      intro s fu h2 hs hf o lo hi
      obtain ⟨fu, rfl⟩ : ∃ g, fu = g + 1 := ⟨fu - 1, by omega⟩
      obtain rfl : s = n0 := by omega
      rw [L_X5_setOut_2_s]
      unfold B_X5_setOut_2 K_X5_setOut_2
      rw [o.1.2.1 403 (by decide), w.2.1, if_pos (nI_le (by omega) (by omega)), o.1.2.1 603 (by decide), e3, o.1.2.1 605 (by decide), e5, put_in h2 (n := 50) (by decide) rfl (by omega) (by decide)]
      have op : only21 h2 (sAI h2 21 0 a (nI ti)) 0 := by
        have := only21.put (h := h2) (k := 0) (s := a) (v := nI ti) (by omega)
        rwa [Nat.mul_zero, Nat.zero_add] at this
      refine ⟨o.trans op, fun x hx => ?_⟩
      unfold Rc
      rw [ai_ai]
      by_cases ex : x = a
      · subst ex
        rw [if_pos ⟨rfl, rfl, by omega⟩, nI_toInt (by omega)]
        exact .inr ⟨.inl ⟨rfl, rfl⟩, fun v q => by
          rcases q with ⟨_, e⟩ | ⟨e, _⟩
          · omega
          · exact absurd rfl e⟩
      · rw [if_neg (fun q => ex (by have := q.2.2; omega))]
        exact lo x hx ex
    | succ mm ih =>
      intro s fu h2 hs hf o lo hi
      obtain ⟨fu, rfl⟩ : ∃ g, fu = g + 1 := ⟨fu - 1, by omega⟩
      rw [L_X5_setOut_2_s]
      unfold B_X5_setOut_2
      have ew : F_X3_walk h2 (nI a) (nI s) = xAI h 23 0 (10 * a + s) := by
        rw [wk_fx o.1]
        unfold F_X3_walk
        rw [ix10, at_in h (n := 100) (by decide) rfl (by omega) (by decide)]
      rw [o.1.2.1 403 (by decide), w.2.1, if_neg (fun q => by have := (nI_leI (by omega) (by omega)).mp q; omega), o.1.2.1 603 (by decide), e3, ew, o.1.2.1 605 (by decide), e5]
      by_cases c : xAI h 23 0 (10 * a + s) = -1
      · rw [if_pos c]
        refine ih (s + 1) fu h2 (by omega) (by omega) o (fun x hx hxa => ?_) (fun x hx => hi x (by omega))
        by_cases ex : x = s
        · subst ex
          exact .inl ⟨hi x (Nat.le_refl _) (by omega), fun v q => by
            rcases q with ⟨e, _⟩ | ⟨_, e, _⟩
            · exact hxa e
            · exact e c⟩
        · exact lo x (by omega) hxa
      · rw [if_neg c, put_in h2 (n := 50) (by decide) rfl (by omega) (by decide)]
        have op : only21 h2 (sAI h2 21 0 s (nI ti + xAI h 23 0 (10 * a + s))) 0 := by
          have := only21.put (h := h2) (k := 0) (s := s) (v := nI ti + xAI h 23 0 (10 * a + s)) (by omega)
          rwa [Nat.mul_zero, Nat.zero_add] at this
        refine ih (s + 1) fu _ (by omega) (by omega) (o.trans op) (fun x hx hxa => ?_) (fun x hx hx2 => ?_)
        · unfold Rc
          rw [ai_ai]
          by_cases ex : x = s
          · subst ex
            rw [if_pos ⟨rfl, rfl, by omega⟩, val x (by omega) c hxa]
            exact .inr ⟨.inr ⟨hxa, c, rfl⟩, fun v q => by
              rcases q with ⟨e, _⟩ | ⟨_, _, e⟩
              · exact absurd e hxa
              · omega⟩
          · rw [if_neg (fun q => ex (by have := q.2.2; omega))]
            exact lo x (by omega) hxa
        · unfold Rc
          rw [ai_ai, if_neg (fun q => by have := q.2.2; omega)]
          exact hi x (by omega) hx2
  exact key n0 0 _ h (by omega) (by omega) only21.rf (fun x hx => absurd hx (Nat.not_lt_zero _)) (fun x _ hx => h0 x hx)
def SearchC (h HC : Hp) (n0 nn a b ti : Nat) : Prop :=
  FX [603, 604, 605, 606, 607] ss2 h HC ∧ xFI HC 603 0 = nI a ∧ xFI HC 604 0 = nI b ∧ xFI HC 605 0 = nI ti ∧ xFI HC 606 0 = nI (ti / 1440 - 1) ∧ xFI HC 607 0 = nI (ti / 1440 + 1) ∧
  (∀ s, s < n0 → LO 1000000000 (R0 h a ti s) (Rc HC 0 s)) ∧
  ∀ m, m < nn → ∀ s, s < n0 → LO 1000000000 (CandT h (Rc HC m) (ti / 1440 - 1) (ti / 1440 + 1) (xLS h 11) s) (Ec HC (m + 1) s) ∧ LO 1000000000 (Rdy h n0 (Ec HC (m + 1)) s) (Rc HC (m + 1) s)
theorem CandT.bnd {h : Hp} {n0 : Nat} (w : World h n0) {R : Nat → Int} {fd ld s : Nat} {a : Int} (hld : ld < 100) (c : CandT h R fd ld (xLS h 11) s a) : 0 ≤ a ∧ a ≤ 200000 := by
  obtain ⟨t, d, h1, h2, h3, h4, i, j, h5, h6, h7, h8, rfl⟩ := c
  have := ((w.2.2.2 t h1).2.2.2.2 d (by omega) h4).2 j h6 (by omega)
  exact ⟨this.1, this.2.1⟩
theorem LO.val {N : Int} {Q : Int → Prop} {v : Int} (l : LO N Q v) (hQ : ∀ a, Q a → 0 ≤ a ∧ a ≤ 200000) (hN : 0 ≤ N) : 0 ≤ v ∧ (v ≤ 300000 ∨ v = N) := by
  rcases l with ⟨e, _⟩ | ⟨q, _⟩
  · omega
  · have := hQ v q
    omega
theorem seek_spec {h : Hp} {n0 nn a b ti : Nat} (w : World h n0) (sm : Small h n0) (ha : a < n0) (ht : ti ≤ 140000) (hnn : nn ≤ 4) : SearchC h (F_X5_seek h (nI a) (nI b) (nI ti) (nI nn)) n0 nn a b ti := by
  have h10 := w.1
  have hld : ti / 1440 + 1 < 100 := by omega
  unfold F_X5_seek
  rw [first_at ht, last_at ht]
  generalize hh1 : H_fill (H_fill (sFI (sFI (sFI (sFI (sFI h 603 0 (nI a)) 604 0 (nI b)) 605 0 (nI ti)) 606 0 (nI (ti / 1440 - 1))) 607 0 (nI (ti / 1440 + 1))) 20 0 1000000000) 21 0 1000000000 = h1
  have fx1 : FX [603, 604, 605, 606, 607] ss2 h h1 := by
    rw [← hh1]
    exact ((((((FX.sfi (by decide)).trans (FX.sfi (by decide))).trans (FX.sfi (by decide))).trans (FX.sfi (by decide))).trans (FX.sfi (by decide))).trans (FX.fillx (by decide))).trans (FX.fillx (by decide))
  have g3 : xFI h1 603 0 = nI a := by rw [← hh1]; rfl
  have g4 : xFI h1 604 0 = nI b := by rw [← hh1]; rfl
  have g5 : xFI h1 605 0 = nI ti := by rw [← hh1]; rfl
  have g6 : xFI h1 606 0 = nI (ti / 1440 - 1) := by rw [← hh1]; rfl
  have g7 : xFI h1 607 0 = nI (ti / 1440 + 1) := by rw [← hh1]; rfl
  have r21 : ∀ j, j < 50 → xAI h1 21 0 j = 1000000000 := by
    intro j hj
    rw [← hh1]
    exact if_pos ⟨rfl, rfl, hj⟩
  have r20 : ∀ j, j < 50 → xAI h1 20 0 j = 1000000000 := by
    intro j hj
    rw [← hh1]
    exact if_pos ⟨rfl, rfl, hj⟩
  clear hh1
  obtain ⟨w1, f1, f2, f3, f4, f5⟩ := w.fx fx1 (by decide)
  have sm1 : Small h1 n0 := fun x y hx hy => by rw [chI_fx fx1]; exact sm x y hx hy
  obtain ⟨o1, lo1⟩ := setOut_spec w1 sm1 ha ht g3 g5 (fun s hs => by unfold Rc; rw [r21 _ (by omega)]; exact N9)
  have fx2 : FX [603, 604, 605, 606, 607] ss2 h (F_X5_setOut h1) := fx1.trans (o1.1.mono (fun f hf => by cases hf) (fun s hs => hs))
  have key : ∀ (mm k fu : Nat) (h5 : Hp), k + mm = nn → mm < fu → FX [603, 604, 605, 606, 607] ss2 h h5 → FX [] ss2 h1 h5 → (∀ s, s < n0 → LO 1000000000 (R0 h a ti s) (Rc h5 0 s)) →
      (∀ m, m < k → ∀ s, s < n0 → LO 1000000000 (CandT h (Rc h5 m) (ti / 1440 - 1) (ti / 1440 + 1) (xLS h 11) s) (Ec h5 (m + 1) s) ∧ LO 1000000000 (Rdy h n0 (Ec h5 (m + 1)) s) (Rc h5 (m + 1) s)) →
      (∀ k', k < k' → k' < 5 → ∀ s, s < 10 → Ec h5 k' s = 1000000000) → SearchC h (L_X5_seek_56 h (nI a) (nI b) (nI ti) (nI nn) fu h5 (k + 1)) n0 nn a b ti := by
    intro mm
    induction mm with
    | zero =>
      intro k fu h5 hk hf q q1 l0 lm le
      obtain ⟨fu, rfl⟩ : ∃ g, fu = g + 1 := ⟨fu - 1, by omega⟩
      obtain rfl : k = nn := by omega
      have e : L_X5_seek_56 h (nI a) (nI b) (nI ti) (nI k) (fu + 1) h5 (k + 1) = h5 := by
        rw [L_X5_seek_56_s]
        unfold B_X5_seek_56
        by_cases c : (4 : Int32) < nI (k + 1)
        · rw [if_pos c]
        · rw [if_neg c, if_pos (nI_lt (Nat.lt_succ_self k) (by omega))]
      rw [e]
      exact ⟨q, (q1.2.1 603 (by decide) 0).trans g3, (q1.2.1 604 (by decide) 0).trans g4, (q1.2.1 605 (by decide) 0).trans g5, (q1.2.1 606 (by decide) 0).trans g6, (q1.2.1 607 (by decide) 0).trans g7, l0, lm⟩
    | succ mm ih =>
      intro k fu h5 hk hf q q1 l0 lm le
      obtain ⟨fu, rfl⟩ : ∃ g, fu = g + 1 := ⟨fu - 1, by omega⟩
      rw [L_X5_seek_56_s]
      unfold B_X5_seek_56
      rw [if_neg (c := (4 : Int32) < nI (k + 1)) (fun z => by have := (nI_ltI (a := 4) (b := k + 1) (by decide) (by omega)).mp z; omega), if_neg (c := nI nn < nI (k + 1)) (fun z => by have := (nI_ltI (by omega) (by omega)).mp z; omega)]
      obtain ⟨w5, u1, u2, u3, u4, u5⟩ := w.fx q (by decide)
      have sm5 : Small h5 n0 := fun x y hx hy => by rw [chI_fx q]; exact sm x y hx hy
      obtain ⟨oR, muR⟩ := rideOn_spec w5 (m := k) (by omega) ((q1.2.1 606 (by decide) 0).trans g6) ((q1.2.1 607 (by decide) 0).trans g7) (by omega) hld
      have cnd : ∀ s a, CandT h5 (Rc h5 k) (ti / 1440 - 1) (ti / 1440 + 1) (xLS h5 11) s a ↔ CandT h (Rc h5 k) (ti / 1440 - 1) (ti / 1440 + 1) (xLS h 11) s a := by
        intro s a
        unfold CandT
        rw [ls_fx q]
        constructor
        · rintro ⟨t, d, h1, h2, h3, h4, h5'⟩
          rw [u2] at h5'
          exact ⟨t, d, h1, h2, h3, (u5 t d).mp h4, (Cand.eqv (fun p => u1 t p) (fun p => u3 t d p) (fun p => u4 t d p) (fun _ _ => Iff.rfl) s a).mp h5'⟩
        · rintro ⟨t, d, h1, h2, h3, h4, h5'⟩
          refine ⟨t, d, h1, h2, h3, (u5 t d).mpr h4, ?_⟩
          rw [u2]
          exact (Cand.eqv (fun p => u1 t p) (fun p => u3 t d p) (fun p => u4 t d p) (fun _ _ => Iff.rfl) s a).mpr h5'
      generalize F_X5_rideOn h5 (nI (k + 1)) = h6 at oR muR
      have q6 : FX [603, 604, 605, 606, 607] ss2 h h6 := q.trans (oR.1.mono (fun f hf => by cases hf) (fun s hs => hs))
      have loE : ∀ s, s < n0 → LO 1000000000 (CandT h (Rc h5 k) (ti / 1440 - 1) (ti / 1440 + 1) (xLS h 11) s) (Ec h6 (k + 1) s) := fun s hs => (muR.same (fun s a => (cnd s a).symm)).lo (le (k + 1) (by omega) (by omega) s (by omega)) (fun a c => by have := c.bnd w hld; omega)
      obtain ⟨w6, -⟩ := w.fx q6 (by decide)
      have sm6 : Small h6 n0 := fun x y hx hy => by rw [chI_fx q6]; exact sm x y hx hy
      obtain ⟨oC, loC⟩ := changeAll_spec w6 sm6 (k := k + 1) (by omega) (fun s hs => (loE s hs).val (fun a c => c.bnd w hld) (by decide))
      generalize F_X5_changeAll h6 (nI (k + 1)) = h7 at oC loC
      have q7 : FX [603, 604, 605, 606, 607] ss2 h h7 := q6.trans (oC.1.mono (fun f hf => by cases hf) (fun s hs => hs))
      -- rows of other rounds stay
      have eE : ∀ m, Ec h7 m = Ec h6 m := fun m => Ec_21 oC
      have eE2 : ∀ m, m ≠ k + 1 → ∀ s, s < 10 → Ec h7 m s = Ec h5 m s := fun m hm s hs => by rw [eE, Ec_only oR hm hs]
      have eR : ∀ m, m ≠ k + 1 → ∀ s, s < 10 → Rc h7 m s = Rc h5 m s := by
        intro m hm s hs
        have : Rc h6 m = Rc h5 m := Rc_only oR
        rw [← this]
        unfold Rc
        rw [oC.2.2 _ (fun s' hs' z => by omega)]
      refine ih (k + 1) fu h7 (by omega) (by omega) q7 ((q1.trans oR.1).trans oC.1) (fun s hs => by rw [eR 0 (by omega) s (by omega)]; exact l0 s hs) (fun m hm s hs => ?_) (fun k' hk' hk5 s hs => by rw [eE2 k' (by omega) s hs]; exact le k' (by omega) hk5 s hs)
      by_cases em : m = k
      · subst em
        rw [eE]
        refine ⟨(loE s hs).same (fun v => CandT.cg w (fun x hx => eR m (by omega) x (by omega)) s v), (loC s hs).same (fun v => ?_)⟩
        unfold Rdy
        simp only [chI_fx q6]
      · obtain ⟨l1, l2⟩ := lm m (by omega) s hs
        rw [eE2 (m + 1) (by omega) s (by omega), eR (m + 1) (by omega) s (by omega)]
        exact ⟨l1.same (fun v => CandT.cg w (fun x hx => eR m (by omega) x (by omega)) s v), l2.same (fun v => Rdy.cg (fun x hx => eE2 (m + 1) (by omega) x (by omega)) s v)⟩
  refine key nn 0 _ (F_X5_setOut h1) (by omega) (by omega) fx2 o1.1 (fun s hs => (lo1 s hs).same (fun v => ?_)) (fun m hm => absurd hm (Nat.not_lt_zero _)) (fun k' hk' hk5 s hs => ?_)
  · unfold R0
    rw [fx1.2.2 23 (by decide)]
  · rw [Ec_21 o1]
    unfold Ec
    rw [r20 _ (by omega)]
    exact N9
