/-! ===== own: a round of rides (out of whole) ===== -/
def Ec (h : Hp) (k s : Nat) : Int := (xAI h 20 0 (10 * k + s)).toInt
def Rc (h : Hp) (k s : Nat) : Int := (xAI h 21 0 (10 * k + s)).toInt
theorem ln_fx {fs ss : List Nat} {h h' : Hp} (q : FX fs ss h h') (s : Nat) : cy_ln h' s = cy_ln h s := by
  have eL : xLS h' = xLS h := congrArg (fun x => x.2.2.1) q.1.2
  unfold cy_ln
  rw [eL]
theorem at_fx {fs ss : List Nat} {h h' : Hp} (q : FX fs ss h h') {s : Nat} (hs : s ∉ ss) (i : Nat) (x : Int32) : F_at h' s i x = F_at h s i x := by
  unfold F_at
  rw [ln_fx q, q.2.2 s hs]
theorem ls_fx {fs ss : List Nat} {h h' : Hp} (q : FX fs ss h h') : xLS h' = xLS h := congrArg (fun x => x.2.2.1) q.1.2
def ss2 : List Nat := [20, 21]
theorem lv_fx {fs : List Nat} {h h' : Hp} (q : FX fs ss2 h h') (t : Nat) (d p : Int32) : F_X7_leaves h' t d p = F_X7_leaves h t d p := by
  unfold F_X7_leaves
  rw [at_fx q (by decide), at_fx q (by decide)]
theorem re_fx {fs : List Nat} {h h' : Hp} (q : FX fs ss2 h h') (t : Nat) (d p : Int32) : F_X7_reaches h' t d p = F_X7_reaches h t d p := by
  unfold F_X7_reaches
  rw [at_fx q (by decide), at_fx q (by decide)]
theorem so_fx {fs : List Nat} {h h' : Hp} (q : FX fs ss2 h h') (t : Nat) (p : Int32) : F_X7_stopAt h' t p = F_X7_stopAt h t p := by
  unfold F_X7_stopAt
  rw [at_fx q (by decide)]
theorem go_fx {fs : List Nat} {h h' : Hp} (q : FX fs ss2 h h') (t : Nat) (d : Int32) : F_X7_goes h' t d = F_X7_goes h t d := by
  unfold F_X7_goes F_X7_isThere
  rw [at_fx q (by decide), q.2.2 31 (by decide)]
theorem wk_fx {fs : List Nat} {h h' : Hp} (q : FX fs ss2 h h') (a b : Int32) : F_X3_walk h' a b = F_X3_walk h a b := by
  unfold F_X3_walk
  rw [at_fx q (by decide)]
theorem tf_fx {fs : List Nat} {h h' : Hp} (q : FX fs ss2 h h') (a : Int32) : F_X3_transferAt h' a = F_X3_transferAt h a := by
  unfold F_X3_transferAt
  rw [at_fx q (by decide)]
theorem rdy_at (h : Hp) {k s : Nat} (hk : k < 5) (hs : s < 10) : F_X5_readyAt h (nI k) (nI s) = xAI h 21 0 (10 * k + s) := by
  unfold F_X5_readyAt
  rw [ix10, at_in h (n := 50) (by decide) rfl (by omega) (by decide)]
theorem arr_at (h : Hp) {k s : Nat} (hk : k < 5) (hs : s < 10) : F_X5_arrivalAt h (nI k) (nI s) = xAI h 20 0 (10 * k + s) := by
  unfold F_X5_arrivalAt
  rw [ix10, at_in h (n := 50) (by decide) rfl (by omega) (by decide)]
theorem min_int (a b : Int32) : (if a < b then a else b).toInt = min b.toInt a.toInt := by
  by_cases q : a < b
  · rw [if_pos q]
    rw [Int32.lt_iff_toInt_lt] at q
    omega
  · rw [if_neg q]
    rw [Int32.lt_iff_toInt_lt] at q
    omega
def only20 (h h' : Hp) (k : Nat) : Prop := FX [] ss2 h h' ∧ (∀ j, xAI h' 21 0 j = xAI h 21 0 j) ∧ ∀ j, (∀ s, s < 10 → j ≠ 10 * k + s) → xAI h' 20 0 j = xAI h 20 0 j
theorem only20.rf {h : Hp} {k : Nat} : only20 h h k := ⟨FX.rf, fun _ => rfl, fun _ _ => rfl⟩
theorem only20.trans {a b c : Hp} {k : Nat} (x : only20 a b k) (y : only20 b c k) : only20 a c k := ⟨x.1.trans y.1, fun j => (y.2.1 j).trans (x.2.1 j), fun j hj => (y.2.2 j hj).trans (x.2.2 j hj)⟩
theorem only20.put {h : Hp} {k s : Nat} {v : Int32} (hs : s < 10) : only20 h (sAI h 20 0 (10 * k + s) v) k := ⟨FX.sai (by decide), fun _ => rfl, fun j hj => if_neg (fun q => hj s hs q.2.2)⟩
theorem Rc_only {h h' : Hp} {k m : Nat} (o : only20 h h' k) : Rc h' m = Rc h m := by
  funext s
  unfold Rc
  rw [o.2.1]
theorem Ec_only {h h' : Hp} {k m : Nat} (o : only20 h h' k) (hm : m ≠ k) {s : Nat} (hs : s < 10) : Ec h' m s = Ec h m s := by
  unfold Ec
  rw [o.2.2 _ (fun s' hs' q => by omega)]
theorem rideRun_spec {h : Hp} {n0 : Nat} (w : World h n0) {t d m : Nat} (ht : t < xLS h 11) (hd : d < 100) (hg : goN h t d) (hm : m < 4) :
    only20 h (F_X5_rideRun h t (nI d) (nI (m + 1))) (m + 1) ∧ MU (Ec h (m + 1)) (Ec (F_X5_rideRun h t (nI d) (nI (m + 1))) (m + 1)) (Cand h (Rc h m) t d (lnN h t)) := by
  obtain ⟨w1, w2, w3, w4⟩ := w
  obtain ⟨l1, l6, el, hst, hdy⟩ := w4 t ht
  obtain ⟨hdp, har⟩ := hdy d hd hg
  have key : ∀ (mm p fu : Nat) (h6 : Hp) (ab : Int32), p + mm = lnN h t → mm < fu → only20 h h6 (m + 1) → MU (Ec h (m + 1)) (Ec h6 (m + 1)) (Cand h (Rc h m) t d p) →
      ((ab = 0 ∧ ∀ i, i < p → ¬ Rc h m (stN h t i) ≤ dpI h t d i) ∨ (ab = 1 ∧ ∃ i, i < p ∧ Rc h m (stN h t i) ≤ dpI h t d i)) →
      only20 h (L_X5_rideRun_6 h t (nI d) (nI (m + 1)) fu h6 ab p) (m + 1) ∧ MU (Ec h (m + 1)) (Ec (L_X5_rideRun_6 h t (nI d) (nI (m + 1)) fu h6 ab p) (m + 1)) (Cand h (Rc h m) t d (lnN h t)) := by
    intro mm
    induction mm with
    | zero =>
      intro p fu h6 ab hp hf o mu hab
      obtain ⟨fu, rfl⟩ : ∃ g, fu = g + 1 := ⟨fu - 1, by omega⟩
      rw [L_X5_rideRun_6_s]
      unfold B_X5_rideRun_6
      rw [o.1.2.1 810 (by decide), el, if_pos (nI_le (by omega) (by omega))]
      obtain rfl : p = lnN h t := by omega
      exact ⟨o, mu⟩
    | succ mm ih =>
      intro p fu h6 ab hp hf o mu hab
      obtain ⟨fu, rfl⟩ : ∃ g, fu = g + 1 := ⟨fu - 1, by omega⟩
      obtain ⟨s1, s2⟩ := hst p (by omega)
      rw [L_X5_rideRun_6_s]
      unfold B_X5_rideRun_6
      rw [o.1.2.1 810 (by decide), el, if_neg (fun q => by have := (nI_leI (by omega) (by omega)).mp q; omega), so_fx o.1, s1, lv_fx o.1, re_fx o.1, nI_pred, rdy_at h6 (by omega) (by omega), arr_at h6 (by omega) (by omega), o.2.1]
      rcases hab with ⟨rfl, hno⟩ | ⟨rfl, i0, hi0, hb0⟩
      · rw [if_pos rfl]
        have same : MU (Ec h (m + 1)) (Ec h6 (m + 1)) (Cand h (Rc h m) t d (p + 1)) := mu.same (fun s a => by
          constructor
          · rintro ⟨i, j, hij, hj, hb, z⟩
            by_cases e : j = p
            · subst e
              exact absurd hb (hno i hij)
            · exact ⟨i, j, hij, by omega, hb, z⟩
          · rintro ⟨i, j, hij, hj, z⟩
            exact ⟨i, j, hij, by omega, z⟩)
        by_cases c : F_X7_leaves h t (nI d) (nI p) < xAI h 21 0 (10 * m + stN h t p)
        · rw [if_pos c]
          rw [Int32.lt_iff_toInt_lt] at c
          refine ih (p + 1) fu h6 0 (by omega) (by omega) o same (.inl ⟨rfl, fun i hi => ?_⟩)
          by_cases e : i = p
          · subst e
            show ¬ (xAI h 21 0 (10 * m + stN h t i)).toInt ≤ (F_X7_leaves h t (nI d) (nI i)).toInt
            omega
          · exact hno i (by omega)
        · rw [if_neg c]
          rw [Int32.lt_iff_toInt_lt] at c
          refine ih (p + 1) fu h6 1 (by omega) (by omega) o same (.inr ⟨rfl, p, by omega, ?_⟩)
          show (xAI h 21 0 (10 * m + stN h t p)).toInt ≤ (F_X7_leaves h t (nI d) (nI p)).toInt
          omega
      · rw [if_neg (by decide), ix10, put_in h6 (n := 50) (by decide) rfl (by omega) (by decide)]
        refine ih (p + 1) fu _ 1 (by omega) (by omega) (o.trans (only20.put (by omega))) (mu.step (stN h t p) (arI h t d p) (fun s => ?_) (fun s a => ?_)) (.inr ⟨rfl, i0, by omega, hb0⟩)
        · unfold Ec
          rw [ai_ai]
          by_cases e : s = stN h t p
          · subst e
            rw [if_pos ⟨rfl, rfl, rfl⟩, if_pos rfl, min_int]
            rfl
          · rw [if_neg (fun q => e (by have := q.2.2; omega)), if_neg e]
        · constructor
          · rintro ⟨i, j, hij, hj, hb, hs, ha⟩
            by_cases e : j = p
            · subst e
              exact .inr ⟨hs.symm, ha.symm⟩
            · exact .inl ⟨i, j, hij, by omega, hb, hs, ha⟩
          · rintro (⟨i, j, hij, hj, z⟩ | ⟨rfl, rfl⟩)
            · exact ⟨i, j, hij, by omega, z⟩
            · exact ⟨i0, p, hi0, by omega, hb0, rfl, rfl⟩
  exact key (lnN h t) 0 _ h 0 (by omega) (by omega) only20.rf (MU.rf (fun s a q => by
    obtain ⟨i, j, _, hj, _⟩ := q
    exact absurd hj (Nat.not_lt_zero _))) (.inl ⟨rfl, fun i hi => absurd hi (Nat.not_lt_zero _)⟩)
theorem World.fx {fs : List Nat} {h h' : Hp} {n0 : Nat} (w : World h n0) (q : FX fs ss2 h h') (hf : 403 ∉ fs ∧ 810 ∉ fs) : World h' n0 ∧ (∀ t p, stN h' t p = stN h t p) ∧ (∀ t, lnN h' t = lnN h t) ∧ (∀ t d p, dpI h' t d p = dpI h t d p) ∧ (∀ t d p, arI h' t d p = arI h t d p) ∧ ∀ t d, goN h' t d ↔ goN h t d := by
  have e1 : ∀ t p, stN h' t p = stN h t p := fun t p => by unfold stN; rw [q.2.2 28 (by decide)]
  have e2 : ∀ t, lnN h' t = lnN h t := fun t => by unfold lnN; rw [q.2.1 810 hf.2]
  have e3 : ∀ t d p, dpI h' t d p = dpI h t d p := fun t d p => by unfold dpI; rw [lv_fx q]
  have e4 : ∀ t d p, arI h' t d p = arI h t d p := fun t d p => by unfold arI; rw [re_fx q]
  have e5 : ∀ t d, goN h' t d ↔ goN h t d := fun t d => by unfold goN; rw [go_fx q]
  refine ⟨⟨w.1, (q.2.1 403 hf.1 0).trans w.2.1, by rw [ls_fx q]; exact w.2.2.1, fun t ht => ?_⟩, e1, e2, e3, e4, e5⟩
  rw [ls_fx q] at ht
  obtain ⟨a, b, c, e, f⟩ := w.2.2.2 t ht
  rw [e2]
  refine ⟨a, b, (q.2.1 810 hf.2 t).trans c, fun p hp => ?_, fun d hd hg => ?_⟩
  · rw [so_fx q, e1]
    exact e p hp
  · have := f d hd ((e5 t d).mp hg)
    simp only [e3, e4]
    exact this
theorem Cand.eqv {h h' : Hp} {R R' : Nat → Int} {t d q : Nat} (e1 : ∀ p, stN h' t p = stN h t p) (e3 : ∀ p, dpI h' t d p = dpI h t d p) (e4 : ∀ p, arI h' t d p = arI h t d p) (eR : ∀ i, i < q → (R' (stN h t i) ≤ dpI h t d i ↔ R (stN h t i) ≤ dpI h t d i)) (s : Nat) (a : Int) : Cand h' R' t d q s a ↔ Cand h R t d q s a := by
  unfold Cand
  simp only [e1, e3, e4]
  constructor
  · rintro ⟨i, j, h1, h2, h3, h4⟩
    exact ⟨i, j, h1, h2, (eR i (by omega)).mp h3, h4⟩
  · rintro ⟨i, j, h1, h2, h3, h4⟩
    exact ⟨i, j, h1, h2, (eR i (by omega)).mpr h3, h4⟩
theorem rideOn_spec {h : Hp} {n0 : Nat} (w : World h n0) {m fd ld : Nat} (hm : m < 4) (e6 : xFI h 606 0 = nI fd) (e7 : xFI h 607 0 = nI ld) (hfd : fd ≤ 1000) (hld : ld < 100) :
    only20 h (F_X5_rideOn h (nI (m + 1))) (m + 1) ∧ MU (Ec h (m + 1)) (Ec (F_X5_rideOn h (nI (m + 1))) (m + 1)) (CandT h (Rc h m) fd ld (xLS h 11)) := by
  have h20 := w.2.2.1
  -- the days of a trip
  have days : ∀ (i : Nat), i < xLS h 11 → ∀ (mm d fu : Nat) (h2 h37 : Hp) (rec2 : Hp → Nat → Hp), (d + mm = ld + 1 ∨ (ld < d ∧ mm = 0)) ∧ d ≤ 1000 → mm < fu → only20 h h37 (m + 1) →
      ∃ H', L_X5_rideOn_37 h (nI (m + 1)) h2 i rec2 (K_X5_rideOn_37 h (nI (m + 1)) h2 i rec2) fu h37 (nI d) = rec2 H' (i + 1) ∧ only20 h H' (m + 1) ∧ MU (Ec h37 (m + 1)) (Ec H' (m + 1)) (fun s a => ∃ d', d ≤ d' ∧ d' ≤ ld ∧ goN h i d' ∧ Cand h (Rc h m) i d' (lnN h i) s a) := by
    intro i hi mm
    induction mm with
    | zero =>
      intro d fu h2 h37 rec2 hd hf o
      obtain ⟨fu, rfl⟩ : ∃ g, fu = g + 1 := ⟨fu - 1, by omega⟩
      have hd' : ld < d := by omega
      refine ⟨h37, ?_, o, MU.rf (fun s a q => by
        obtain ⟨d', q1, q2, _⟩ := q
        omega)⟩
      rw [L_X5_rideOn_37_s]
      unfold B_X5_rideOn_37 K_X5_rideOn_37
      rw [o.1.2.1 607 (by decide), e7]
      rw [if_pos (nI_lt hd' (by omega))]
    | succ mm ih =>
      intro d fu h2 h37 rec2 hd hf o
      obtain ⟨fu, rfl⟩ : ∃ g, fu = g + 1 := ⟨fu - 1, by omega⟩
      have hd' : d ≤ ld := by omega
      rw [L_X5_rideOn_37_s]
      unfold B_X5_rideOn_37
      rw [o.1.2.1 607 (by decide), e7, if_neg (fun q => by have := (nI_ltI (by omega) (by omega)).mp q; omega), if_neg (c := (100 : Int32) ≤ nI d) (fun q => by have := (nI_leI (a := 100) (b := d) (by decide) (by omega)).mp q; omega), go_fx o.1, show nI d + 1 = nI (d + 1) from nI_add d 1]
      have fin : ∀ {H1 H' : Hp}, MU (Ec h37 (m + 1)) (Ec H1 (m + 1)) (fun s a => goN h i d ∧ Cand h (Rc h m) i d (lnN h i) s a) → MU (Ec H1 (m + 1)) (Ec H' (m + 1)) (fun s a => ∃ d', d + 1 ≤ d' ∧ d' ≤ ld ∧ goN h i d' ∧ Cand h (Rc h m) i d' (lnN h i) s a) → MU (Ec h37 (m + 1)) (Ec H' (m + 1)) (fun s a => ∃ d', d ≤ d' ∧ d' ≤ ld ∧ goN h i d' ∧ Cand h (Rc h m) i d' (lnN h i) s a) := by
        intro H1 H' m1 m2
        refine m1.trans m2 (fun s a => ?_)
        constructor
        · rintro ⟨d', q1, q2, q3⟩
          by_cases e : d' = d
          · subst e
            exact .inl q3
          · exact .inr ⟨d', by omega, q2, q3⟩
        · rintro (q3 | ⟨d', q1, q2⟩)
          · exact ⟨d, Nat.le_refl _, hd', q3⟩
          · exact ⟨d', by omega, q2⟩
      by_cases g : F_X7_goes h i (nI d) = 0
      · rw [if_pos g]
        obtain ⟨H', e, o', mu⟩ := ih (d + 1) fu h2 h37 rec2 (by omega) (by omega) o
        exact ⟨H', e, o', fin (MU.rf (fun s a q => q.1 g)) mu⟩
      · rw [if_neg g]
        obtain ⟨w', f1, f2, f3, f4, f5⟩ := w.fx o.1 (by decide)
        obtain ⟨o1, mu1⟩ := rideRun_spec w' (t := i) (d := d) (m := m) (by rw [ls_fx o.1]; exact hi) (by omega) ((f5 i d).mpr g) hm
        obtain ⟨H', e, o', mu⟩ := ih (d + 1) fu h2 _ rec2 (by omega) (by omega) (o.trans o1)
        refine ⟨H', e, o', fin (mu1.same (fun s a => ?_)) mu⟩
        rw [Rc_only o, f2]
        constructor
        · rintro ⟨_, q⟩
          exact (Cand.eqv (fun p => f1 i p) (fun p => f3 i d p) (fun p => f4 i d p) (fun _ _ => Iff.rfl) s a).mpr q
        · intro q
          exact ⟨g, (Cand.eqv (fun p => f1 i p) (fun p => f3 i d p) (fun p => f4 i d p) (fun _ _ => Iff.rfl) s a).mp q⟩
  -- the trips
  have trips : ∀ (mm i fu : Nat) (h2 : Hp), i + mm = xLS h 11 → mm < fu → only20 h h2 (m + 1) → MU (Ec h (m + 1)) (Ec h2 (m + 1)) (CandT h (Rc h m) fd ld i) →
      only20 h (L_X5_rideOn_2 h (nI (m + 1)) fu h2 i) (m + 1) ∧ MU (Ec h (m + 1)) (Ec (L_X5_rideOn_2 h (nI (m + 1)) fu h2 i) (m + 1)) (CandT h (Rc h m) fd ld (xLS h 11)) := by
    intro mm
    induction mm with
    | zero =>
      intro i fu h2 hi hf o mu
      obtain ⟨fu, rfl⟩ : ∃ g, fu = g + 1 := ⟨fu - 1, by omega⟩
      obtain rfl : i = xLS h 11 := by omega
      rw [L_X5_rideOn_2_s]
      unfold B_X5_rideOn_2
      rw [ls_fx o.1, if_pos (nI_le (by omega) (by omega))]
      exact ⟨o, mu⟩
    | succ mm ih =>
      intro i fu h2 hi hf o mu
      obtain ⟨fu, rfl⟩ : ∃ g, fu = g + 1 := ⟨fu - 1, by omega⟩
      rw [L_X5_rideOn_2_s]
      unfold B_X5_rideOn_2
      rw [ls_fx o.1, if_neg (fun q => by have := (nI_leI (by omega) (by omega)).mp q; omega), o.1.2.1 606 (by decide), e6]
      obtain ⟨H', e, o', mu'⟩ := days i (by omega) (ld + 1 - fd) fd ((2147483647 - (nI fd).toInt).toNat + 1) h2 h2 (L_X5_rideOn_2 h (nI (m + 1)) fu) (by omega) (by rw [nI_toInt (by omega)]; omega) o
      rw [e]
      refine ih (i + 1) fu H' (by omega) (by omega) o' (mu.trans mu' (fun s a => ?_))
      unfold CandT
      constructor
      · rintro ⟨t, d, q1, q2, q3, q4⟩
        by_cases et : t = i
        · subst et
          exact .inr ⟨d, q2, q3, q4⟩
        · exact .inl ⟨t, d, by omega, q2, q3, q4⟩
      · rintro (⟨t, d, q1, q2⟩ | ⟨d, q2, q3, q4⟩)
        · exact ⟨t, d, by omega, q2⟩
        · exact ⟨i, d, by omega, q2, q3, q4⟩
  exact trips (xLS h 11) 0 _ h (by omega) (by omega) only20.rf (MU.rf (fun s a q => by
    obtain ⟨t, d, q1, _⟩ := q
    exact absurd q1 (Nat.not_lt_zero _)))
