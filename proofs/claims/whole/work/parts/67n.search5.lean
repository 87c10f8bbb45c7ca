/-! ===== own: the class's end; the reference's runs ===== -/
/-- how the goal b is come to behind E -/
def EndQ (h : Hp) (n0 : Nat) (E : Nat → Int) (b : Nat) (v : Int) : Prop := ∃ s, s < n0 ∧ E s < 1000000000 ∧ ((s = b ∧ v = E s) ∨ (s ≠ b ∧ ¬ xAI h 23 0 (10 * s + b) = -1 ∧ v = E s + (xAI h 23 0 (10 * s + b)).toInt))
/-- a stop's way to the goal -/
def toB (h : Hp) (b s : Nat) : Int32 := if s = b then 0 else xAI h 23 0 (10 * s + b)
theorem endFrom_at {h : Hp} {n0 k b s : Nat} (sm : Small h n0) (h10 : n0 ≤ 10) (hk : k < 5) (hb : b < n0) (hs : s < n0) (e4 : xFI h 604 0 = nI b) (hE : 0 ≤ Ec h k s) :
    (F_X5_endFrom h (nI s) (nI k)).toInt = if toB h b s = -1 ∨ ¬ Ec h k s < 1000000000 then 1000000000 else Ec h k s + (toB h b s).toInt := by
  unfold F_X5_endFrom toB
  rw [e4, arr_at h hk (by omega)]
  unfold Ec at hE ⊢
  have z0 : (0 : Int32).toInt = 0 := by decide
  by_cases c : s = b
  · rw [if_pos (by rw [c]), if_pos c]
    by_cases c2 : xAI h 20 0 (10 * k + s) < 1000000000
    · have c3 := c2
      rw [Int32.lt_iff_toInt_lt, N9] at c3
      rw [if_pos c2, if_neg (fun q => q.elim (fun z => absurd z (by decide)) (fun z => z c3))]
      exact add_int (by omega) (by omega)
    · have c3 := c2
      rw [Int32.lt_iff_toInt_lt, N9] at c3
      rw [if_neg c2, if_pos (.inr c3)]
      exact N9
  · have ew : F_X3_walk h (nI s) (nI b) = xAI h 23 0 (10 * s + b) := by
      unfold F_X3_walk
      rw [ix10, at_in h (n := 100) (by decide) rfl (by omega) (by decide)]
    rw [if_neg (fun q => c (nI_inj (by omega) (by omega) q)), if_neg c, ew]
    by_cases c1 : xAI h 23 0 (10 * s + b) = -1
    · rw [if_pos c1, if_pos (.inl c1)]
      exact N9
    · rw [if_neg c1]
      by_cases c2 : xAI h 20 0 (10 * k + s) < 1000000000
      · have c3 := c2
        rw [Int32.lt_iff_toInt_lt, N9] at c3
        rw [if_pos c2, if_neg (fun q => q.elim c1 (fun z => z c3))]
        have := sm s b hs hb
        unfold chI at this
        rw [if_neg c] at this
        rcases this with z | z
        · exact absurd z c1
        · exact add_int (by omega) (by omega)
      · have c3 := c2
        rw [Int32.lt_iff_toInt_lt, N9] at c3
        rw [if_neg c2, if_pos (.inr c3)]
        exact N9
theorem toB_sm {h : Hp} {n0 b s : Nat} (sm : Small h n0) (hb : b < n0) (hs : s < n0) : toB h b s = -1 ∨ (0 ≤ (toB h b s).toInt ∧ (toB h b s).toInt ≤ 200) := by
  unfold toB
  by_cases c : s = b
  · rw [if_pos c]
    exact .inr (by decide)
  · rw [if_neg c]
    have := sm s b hs hb
    unfold chI at this
    rwa [if_neg c] at this
theorem EndQ.alt {h : Hp} {n0 b : Nat} {E : Nat → Int} {v : Int} : EndQ h n0 E b v ↔ ∃ s, s < n0 ∧ E s < 1000000000 ∧ ¬ toB h b s = -1 ∧ v = E s + (toB h b s).toInt := by
  have z0 : (0 : Int32).toInt = 0 := by decide
  constructor
  · rintro ⟨s, h1, h2, h3 | h3⟩
    · refine ⟨s, h1, h2, ?_, ?_⟩
      · unfold toB; rw [if_pos h3.1]; decide
      · unfold toB; rw [if_pos h3.1, z0]; omega
    · refine ⟨s, h1, h2, ?_, ?_⟩
      · unfold toB; rw [if_neg h3.1]; exact h3.2.1
      · unfold toB; rw [if_neg h3.1]; exact h3.2.2
  · rintro ⟨s, h1, h2, h3, h4⟩
    refine ⟨s, h1, h2, ?_⟩
    unfold toB at h3 h4
    by_cases c : s = b
    · rw [if_pos c, z0] at h4
      exact .inl ⟨c, by omega⟩
    · rw [if_neg c] at h3 h4
      exact .inr ⟨c, h3, h4⟩
theorem end_spec {h : Hp} {n0 k b : Nat} (w : World h n0) (sm : Small h n0) (hk : k < 5) (hb : b < n0) (e4 : xFI h 604 0 = nI b) (hE : ∀ s, s < n0 → 0 ≤ Ec h k s ∧ (Ec h k s ≤ 300000 ∨ Ec h k s = 1000000000)) :
    LO 1000000000 (EndQ h n0 (Ec h k) b) (F_X5_end h (nI k)).toInt := by
  have h10 := w.1
  have key : ∀ (mm a fu : Nat) (e : Int32), a + mm = n0 → mm < fu → LO 1000000000 (fun v => ∃ s, s < a ∧ Ec h k s < 1000000000 ∧ ¬ toB h b s = -1 ∧ v = Ec h k s + (toB h b s).toInt) e.toInt → LO 1000000000 (EndQ h n0 (Ec h k) b) (L_X5_end_5 h (nI k) fu e a).toInt := by
    intro mm
    induction mm with
    | zero =>
      intro a fu e ha hf lo
      obtain ⟨fu, rfl⟩ : ∃ g, fu = g + 1 := ⟨fu - 1, by omega⟩
      obtain rfl : a = n0 := by omega
      rw [L_X5_end_5_s]
      unfold B_X5_end_5
      rw [w.2.1, if_pos (nI_le (by omega) (by omega))]
      exact lo.same (fun v => EndQ.alt)
    | succ mm ih =>
      intro a fu e ha hf lo
      obtain ⟨fu, rfl⟩ : ∃ g, fu = g + 1 := ⟨fu - 1, by omega⟩
      rw [L_X5_end_5_s]
      unfold B_X5_end_5
      rw [w.2.1, if_neg (fun q => by have := (nI_leI (by omega) (by omega)).mp q; omega)]
      have hr := endFrom_at sm h10 hk hb (show a < n0 by omega) e4 (hE a (by omega)).1
      refine ih (a + 1) fu _ (by omega) (by omega) ?_
      rw [min_int, hr]
      have bnd : ∀ v, (∃ s, s < a ∧ Ec h k s < 1000000000 ∧ ¬ toB h b s = -1 ∧ v = Ec h k s + (toB h b s).toInt) → v < 1000000000 := by
        rintro v ⟨s, b1, b2, b3, rfl⟩
        have := (hE s (by omega)).2
        rcases toB_sm sm hb (show s < n0 by omega) with z | z
        · exact absurd z b3
        · omega
      by_cases c : toB h b a = -1 ∨ ¬ Ec h k a < 1000000000
      · rw [if_pos c, LO.top lo bnd]
        refine lo.same (fun v => ?_)
        constructor
        · rintro ⟨s, b1, b2, b3, b4⟩
          by_cases e2 : s = a
          · subst e2
            exact absurd b2 (c.elim (fun y => absurd y b3) id)
          · exact ⟨s, by omega, b2, b3, b4⟩
        · rintro ⟨s, b1, z⟩
          exact ⟨s, by omega, z⟩
      · rw [if_neg c]
        have c1 : ¬ toB h b a = -1 := fun y => c (.inl y)
        have c2 : Ec h k a < 1000000000 := Classical.byContradiction fun y => c (.inr y)
        refine lo.add ?_ (fun v => ?_) bnd
        · rcases toB_sm sm hb (show a < n0 by omega) with z | z
          · exact absurd z c1
          · have := (hE a (by omega)).2
            omega
        · constructor
          · rintro ⟨s, b1, b2, b3, b4⟩
            by_cases e2 : s = a
            · subst e2
              exact .inr b4
            · exact .inl ⟨s, by omega, b2, b3, b4⟩
          · rintro (⟨s, b1, z⟩ | rfl)
            · exact ⟨s, by omega, z⟩
            · exact ⟨a, by omega, c2, c1, rfl⟩
  exact key n0 0 _ _ (by omega) (by omega) (.inl ⟨N9, fun v q => by
    obtain ⟨s, b1, _⟩ := q
    exact absurd b1 (Nat.not_lt_zero _)⟩)
/-! ===== own: the reference's runs ===== -/
def Em (H : Hp) (k s : Nat) : Int := (xAI H 57 0 (10 * k + s)).toInt
def Rm (H : Hp) (k s : Nat) : Int := (xAI H 58 0 (10 * k + s)).toInt
/-- the reference's part of H tells what h's does -/
theorem ma_f : ∀ f, f ∈ [1000, 1003] → f ∉ scF := by decide
def MA (h H : Hp) : Prop := (∀ f, f ∈ [1000, 1003] → ∀ i, xFI H f i = xFI h f i) ∧ ∀ s, s ∉ scA → ∀ i j, xAI H s i j = xAI h s i j
theorem MA.fx {h H H' : Hp} {fs ss : List Nat} (a : MA h H) (q : FX fs ss H H') (h1 : ∀ f, f ∈ fs → f ∈ scF) (h2 : ∀ s, s ∈ ss → s ∈ scA) : MA h H' :=
  ⟨fun f hf i => (q.2.1 f (fun z => ma_f f hf (h1 f z)) i).trans (a.1 f hf i), fun s hs i j => (q.2.2 s (fun z => hs (h2 s z)) i j).trans (a.2 s hs i j)⟩
/-- what the reference's rows hold of a trip -/
theorem mtrip {h H : Hp} (W : CW h) (R : RC h) (a : MA h H) {t : Nat} (ht : t < xLS h 11) : xAI H 46 0 t = nI (lnN h t) ∧ ∀ p, p < lnN h t → xAI H 47 0 (6 * t + p) = nI (stN h t p) := by
  obtain ⟨⟨n0, hs, htr⟩, -⟩ := R
  obtain ⟨-, -, -, -, ⟨len, st, lv, ar, r1, r2, r3, r4, r5⟩, -⟩ := htr t ht
  have el : lnN h t = len := by unfold lnN; rw [r3, nI_clamp (by omega)]
  rw [el, a.2 46 (by decide)]
  refine ⟨r4, fun p hp => ?_⟩
  obtain ⟨s1, s2, s3, -⟩ := r5 p hp
  have := hs.1
  unfold stN
  rw [a.2 47 (by decide), s2, s1, nI_clamp (by omega)]
def only57 (h h' : Hp) (k : Nat) : Prop := FX [] [57] h h' ∧ ∀ j, (∀ s, s < 10 → j ≠ 10 * k + s) → xAI h' 57 0 j = xAI h 57 0 j
theorem only57.rf {h : Hp} {k : Nat} : only57 h h k := ⟨FX.rf, fun _ _ => rfl⟩
theorem only57.trans {a b c : Hp} {k : Nat} (x : only57 a b k) (y : only57 b c k) : only57 a c k := ⟨x.1.trans y.1, fun j hj => (y.2 j hj).trans (x.2 j hj)⟩
theorem only57.put {h : Hp} {k s : Nat} {v : Int32} (hs : s < 10) : only57 h (sAI h 57 0 (10 * k + s) v) k := ⟨FX.sai (by decide), fun j hj => if_neg (fun q => hj s hs q.2.2)⟩
theorem Rm_57 {h h' : Hp} {k m : Nat} (o : only57 h h' k) : Rm h' m = Rm h m := by
  funext s
  unfold Rm
  rw [o.1.2.2 58 (by decide)]
theorem Em_57 {h h' : Hp} {k m : Nat} (o : only57 h h' k) (hm : m ≠ k) {s : Nat} (hs : s < 10) : Em h' m s = Em h m s := by
  unfold Em
  rw [o.2 _ (fun s' hs' q => by omega)]
theorem min_int2 (a b : Int32) : (if a ≤ b then a else b).toInt = min a.toInt b.toInt := by
  by_cases q : a ≤ b
  · rw [if_pos q]
    rw [Int32.le_iff_toInt_le] at q
    omega
  · rw [if_neg q]
    rw [Int32.le_iff_toInt_le] at q
    omega
theorem nI_m1 (m : Nat) : nI (m + 1) - 1 = nI m := nI_pred m
theorem rides_spec {h H : Hp} {n0 : Nat} (W : CW h) (R : RC h) (w : World h n0) (a : MA h H) {t d m : Nat} (ht : t < xLS h 11) (hd : d < 100) (hg : goN h t d) (hm : m < 4) :
    only57 H (F_X9_rides H (nI (m + 1)) (nI t) (nI d)) (m + 1) ∧ MU (Em H (m + 1)) (Em (F_X9_rides H (nI (m + 1)) (nI t) (nI d)) (m + 1)) (Cand h (Rm H m) t d (lnN h t)) := by
  obtain ⟨w1, w2, w3, w4⟩ := w
  obtain ⟨l1, l6, el, hst, hdy⟩ := w4 t ht
  obtain ⟨hdp, har⟩ := hdy d hd hg
  have MAo : ∀ {X : Hp}, only57 H X (m + 1) → MA h X := fun o => a.fx o.1 (fun f hf => by cases hf) (fun s hs => by simp only [List.mem_singleton] at hs; subst hs; decide)
  have inner : ∀ (i : Nat) (h3 : Hp) (rec3 : Hp → Nat → Hp), i < lnN h t → only57 H h3 (m + 1) → ∀ (mm j fu : Nat) (h66 : Hp), j + mm = lnN h t → i < j → mm < fu → only57 H h66 (m + 1) →
      ∃ H', L_X9_rides_66 H (nI (m + 1)) (nI t) (nI d) h3 i rec3 (K_X9_rides_66 H (nI (m + 1)) (nI t) (nI d) h3 i rec3) fu h66 j = rec3 H' (i + 1) ∧ only57 H H' (m + 1) ∧
        MU (Em h66 (m + 1)) (Em H' (m + 1)) (fun s v => Rm H m (stN h t i) ≤ dpI h t d i ∧ ∃ j', j ≤ j' ∧ j' < lnN h t ∧ stN h t j' = s ∧ arI h t d j' = v) := by
    intro i h3 rec3 hi o3 mm
    have m3 := MAo o3
    obtain ⟨t3, s3⟩ := mtrip W R m3 ht
    have edp : F_X9_departure h3 (nI t) (nI d) (nI i) = F_X7_leaves h t (nI d) (nI i) := dep_eq W R m3.2 ht hd (by rw [el]; exact fun q => by have := (nI_leI (by omega) (by omega)).mp q; omega) (by omega)
    have erd : xAI h3 58 0 ((10 * (nI (m + 1) - 1)) + (xAI h3 47 0 ((6 * nI t) + nI i).toNatClampNeg)).toNatClampNeg = xAI H 58 0 (10 * m + stN h t i) := by
      have := (hst i hi).2
      rw [nI_m1, xi6, nI_clamp (by omega), s3 i hi, xi10, nI_clamp (by omega), o3.1.2.2 58 (by decide)]
    induction mm with
    | zero =>
      intro j fu h66 hj hij hf o
      obtain ⟨fu, rfl⟩ : ∃ g, fu = g + 1 := ⟨fu - 1, by omega⟩
      refine ⟨h66, ?_, o, MU.rf (fun s v q => by
        obtain ⟨_, j', q1, q2, _⟩ := q
        omega)⟩
      rw [L_X9_rides_66_s]
      unfold B_X9_rides_66 K_X9_rides_66
      rw [nI_clamp (by omega), (mtrip W R (MAo o) ht).1, if_pos (nI_le (by omega) (by omega))]
    | succ mm ih =>
      intro j fu h66 hj hij hf o
      obtain ⟨fu, rfl⟩ : ∃ g, fu = g + 1 := ⟨fu - 1, by omega⟩
      obtain ⟨t6, s6⟩ := mtrip W R (MAo o) ht
      have hsj := (hst j (by omega)).2
      rw [L_X9_rides_66_s]
      unfold B_X9_rides_66
      rw [edp, erd, nI_clamp (show t < 2 ^ 31 by omega), t6, if_neg (fun q => by have := (nI_leI (by omega) (by omega)).mp q; omega), xi6, nI_clamp (show 6 * t + j < 2 ^ 31 by omega), s6 j (by omega), xi10, nI_clamp (by omega), arr_eq W R (MAo o).2 ht hd (by rw [el]; exact fun q => by have := (nI_leI (by omega) (by omega)).mp q; omega) (by omega) (by omega)]
      by_cases c : F_X7_leaves h t (nI d) (nI i) < xAI H 58 0 (10 * m + stN h t i)
      · rw [if_pos c, if_pos rfl]
        rw [Int32.lt_iff_toInt_lt] at c
        unfold K_X9_rides_66
        exact ⟨h66, rfl, o, MU.rf (fun s v q => by
          have q1 : (xAI H 58 0 (10 * m + stN h t i)).toInt ≤ (F_X7_leaves h t (nI d) (nI i)).toInt := q.1
          omega)⟩
      · rw [if_neg c, if_neg (by decide)]
        rw [Int32.lt_iff_toInt_lt] at c
        have may : Rm H m (stN h t i) ≤ dpI h t d i := by
          show (xAI H 58 0 (10 * m + stN h t i)).toInt ≤ (F_X7_leaves h t (nI d) (nI i)).toInt
          omega
        obtain ⟨H', e, o', mu⟩ := ih (j + 1) fu (sAI h66 57 0 (10 * (m + 1) + stN h t j) (if xAI h66 57 0 (10 * (m + 1) + stN h t j) ≤ F_X7_reaches h t (nI d) (nI j) then xAI h66 57 0 (10 * (m + 1) + stN h t j) else F_X7_reaches h t (nI d) (nI j))) (by omega) (by omega) (by omega) (o.trans (only57.put (by omega)))
        refine ⟨H', e, o', ?_⟩
        have st : MU (Em h66 (m + 1)) (Em (sAI h66 57 0 (10 * (m + 1) + stN h t j) (if xAI h66 57 0 (10 * (m + 1) + stN h t j) ≤ F_X7_reaches h t (nI d) (nI j) then xAI h66 57 0 (10 * (m + 1) + stN h t j) else F_X7_reaches h t (nI d) (nI j))) (m + 1)) (fun s v => s = stN h t j ∧ v = arI h t d j) := by
          refine (MU.rf (C := fun _ _ => False) (fun _ _ q => q)).step (stN h t j) (arI h t d j) (fun s => ?_) (fun s v => by simp)
          unfold Em
          rw [ai_ai]
          by_cases es : s = stN h t j
          · subst es
            rw [if_pos ⟨rfl, rfl, rfl⟩, if_pos rfl, min_int2]
            rfl
          · rw [if_neg (fun q => es (by have := q.2.2; omega)), if_neg es]
        refine st.trans mu (fun s v => ?_)
        constructor
        · rintro ⟨q1, j', q2, q3, q4, q5⟩
          by_cases ej : j' = j
          · subst ej
            exact .inl ⟨q4.symm, q5.symm⟩
          · exact .inr ⟨q1, j', by omega, q3, q4, q5⟩
        · rintro (⟨rfl, rfl⟩ | ⟨q1, j', q2, q3⟩)
          · exact ⟨may, j, Nat.le_refl _, by omega, rfl, rfl⟩
          · exact ⟨q1, j', by omega, q3⟩
  have outer : ∀ (mm i fu : Nat) (h3 : Hp), i + mm = lnN h t → mm < fu → only57 H h3 (m + 1) → MU (Em H (m + 1)) (Em h3 (m + 1)) (fun s v => ∃ i' j, i' < i ∧ i' < j ∧ j < lnN h t ∧ Rm H m (stN h t i') ≤ dpI h t d i' ∧ stN h t j = s ∧ arI h t d j = v) →
      only57 H (L_X9_rides_3 H (nI (m + 1)) (nI t) (nI d) fu h3 i) (m + 1) ∧ MU (Em H (m + 1)) (Em (L_X9_rides_3 H (nI (m + 1)) (nI t) (nI d) fu h3 i) (m + 1)) (Cand h (Rm H m) t d (lnN h t)) := by
    intro mm
    induction mm with
    | zero =>
      intro i fu h3 hi hf o mu
      obtain ⟨fu, rfl⟩ : ∃ g, fu = g + 1 := ⟨fu - 1, by omega⟩
      rw [L_X9_rides_3_s]
      unfold B_X9_rides_3
      rw [nI_clamp (by omega), (mtrip W R (MAo o) ht).1, if_pos (nI_le (by omega) (by omega))]
      refine ⟨o, mu.same (fun s v => ?_)⟩
      constructor
      · rintro ⟨i', j, q1, q2, q3⟩
        exact ⟨i', j, by omega, q1, q2, q3⟩
      · rintro ⟨i', j, q0, q1, q2, q3⟩
        exact ⟨i', j, q1, q2, q3⟩
    | succ mm ih =>
      intro i fu h3 hi hf o mu
      obtain ⟨fu, rfl⟩ : ∃ g, fu = g + 1 := ⟨fu - 1, by omega⟩
      rw [L_X9_rides_3_s]
      unfold B_X9_rides_3
      rw [nI_clamp (by omega), (mtrip W R (MAo o) ht).1, if_neg (fun q => by have := (nI_leI (by omega) (by omega)).mp q; omega)]
      obtain ⟨H', e, o', mu'⟩ := inner i h3 (L_X9_rides_3 H (nI (m + 1)) (nI t) (nI d) fu) (by omega) o (lnN h t - (i + 1)) (i + 1) (2147483648 - (i + 1) + 1) h3 (by omega) (by omega) (by omega) o
      rw [e]
      refine ih (i + 1) fu H' (by omega) (by omega) o' (mu.trans mu' (fun s v => ?_))
      constructor
      · rintro ⟨i', j, q0, q1, q2, q3, q4⟩
        by_cases ei : i' = i
        · subst ei
          exact .inr ⟨q3, j, by omega, q2, q4⟩
        · exact .inl ⟨i', j, by omega, q1, q2, q3, q4⟩
      · rintro (⟨i', j, q0, q1, q2, q3, q4⟩ | ⟨q3, j, q1, q2, q4⟩)
        · exact ⟨i', j, by omega, q1, q2, q3, q4⟩
        · exact ⟨i, j, by omega, by omega, q2, q3, q4⟩
  exact outer (lnN h t) 0 _ H (by omega) (by omega) only57.rf (MU.rf (fun s v q => by
    obtain ⟨i', j, q0, _⟩ := q
    exact absurd q0 (Nat.not_lt_zero _)))
