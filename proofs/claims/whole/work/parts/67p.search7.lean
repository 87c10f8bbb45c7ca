/-! ===== own: the reference's search: all of it ===== -/
/-- what the reference's search has found -/
def SearchM (h HM : Hp) (n0 nn a ti : Nat) : Prop :=
  MA h HM ∧ (∀ s, s < n0 → LO 100000000 (R0 h a ti s) (Rm HM 0 s)) ∧
  (∀ m, m < nn → ∀ s, s < n0 → LO 100000000 (CandT h (Rm HM m) (ti / 1440 - 1) (ti / 1440 + 1) (xLS h 11) s) (Em HM (m + 1) s) ∧ LO 100000000 (RdyM h n0 (Em HM (m + 1)) s) (Rm HM (m + 1) s)) ∧ xFI HM 1022 0 = nI ti
theorem nI_pos_lt {a b : Nat} (ha : a < 2147483648) (hb : b < 2147483648) (h : b ≤ a) : ¬ nI a < nI b := fun q => by
  have := (nI_ltI ha hb).mp q
  omega
/-- a day that is looked at -/
theorem looked_at {h H : Hp} (W : CW h) (R : RC h) (a : MA h H) {t d ti : Nat} (ht : t < xLS h 11) (hti : ti ≤ 140000) (e : xFI H 1022 0 = nI ti) (h1 : ti / 1440 - 1 ≤ d) (h2 : d ≤ ti / 1440 + 1) :
    F_X9_isLooked H (nI t) (nI d) = 0 ↔ ¬ goN h t d := by
  have hq : ti / 1440 ≤ 97 := by omega
  unfold F_X9_isLooked
  rw [e, nI_quo2 (by omega), show nI (ti / 1440) + 1 = nI (ti / 1440 + 1) from nI_add _ 1, goes_eq W R a.2 ht (by omega)]
  generalize ti / 1440 = q at hq h1 h2
  have c1 : okR (nI d) 0 99 := ⟨nI_pos_lt (a := d) (b := 0) (by omega) (by decide) (by omega), (nI_leI (a := d) (b := 99) (by omega) (by decide)).mpr (by omega)⟩
  have c2 : okR (nI d) (nI q - 1) (nI (q + 1)) := by
    refine ⟨?_, (nI_leI (by omega) (by omega)).mpr h2⟩
    by_cases q0 : q = 0
    · subst q0
      rw [Int32.lt_iff_toInt_lt, nI_toInt (by omega)]
      have : (nI 0 - 1).toInt = -1 := by decide
      omega
    · obtain ⟨m, rfl⟩ : ∃ m, q = m + 1 := ⟨q - 1, by omega⟩
      rw [nI_pred]
      exact nI_pos_lt (by omega) (by omega) (by omega)
  rw [if_pos c1, if_pos c2]
  unfold goN
  by_cases g : F_X7_goes h t (nI d) = 0
  · rw [if_pos g]
    exact ⟨fun _ z => z g, fun _ => rfl⟩
  · rw [if_neg g]
    exact ⟨fun z => absurd z (by decide), fun z => absurd g z⟩
theorem looked_m1 {H : Hp} {t : Int32} : F_X9_isLooked H t (nI 0 - 1) = 0 := by
  unfold F_X9_isLooked
  rw [if_neg (fun q => by
    have := q.1
    revert this
    decide)]
theorem CandT.cgq {h : Hp} {n0 q : Nat} (w : World h n0) (hq : q ≤ xLS h 11) {R R' : Nat → Int} {fd ld : Nat} (e : ∀ s, s < n0 → R' s = R s) (s : Nat) (a : Int) : CandT h R' fd ld q s a ↔ CandT h R fd ld q s a := by
  have one : ∀ {X Y : Nat → Int}, (∀ s, s < n0 → X s = Y s) → CandT h X fd ld q s a → CandT h Y fd ld q s a := by
    rintro X Y e ⟨t, d, h1, h2, h3, h4, i, j, h5, h6, h7, h8⟩
    have hi := ((w.2.2.2 t (by omega)).2.2.2.1 i (by omega)).2
    exact ⟨t, d, h1, h2, h3, h4, i, j, h5, h6, by rw [← e _ hi]; exact h7, h8⟩
  exact ⟨one e, one (fun s hs => (e s hs).symm)⟩
/-- a round of the reference's rides: the trips -/
theorem lookAll_spec {h H X : Hp} {n0 k a ti : Nat} {nn : Int32} (W : CW h) (R : RC h) (w : World h n0) (ma : MA h H) (hti : ti ≤ 140000) (e22 : xFI H 1022 0 = nI ti) (hm : k < 4) (h105 : Hp) (rec105 : Hp → Nat → Hp) (hh : h105 = H) :
    ∃ H', L_X9_reaches_114 X (nI a) (nI ti) nn h105 (k + 1) rec105 (K_X9_reaches_114 X (nI a) (nI ti) nn h105 (k + 1) rec105) (2147483648 - 0 + 1) h105 0 = rec105 (F_X9_readies H' (nI (k + 1))) (k + 1 + 1) ∧ only57 H H' (k + 1) ∧ MU (Em H (k + 1)) (Em H' (k + 1)) (CandT h (Rm H k) (ti / 1440 - 1) (ti / 1440 + 1) (xLS h 11)) := by
  subst hh
  have h20 := w.2.2.1
  have hq : ti / 1440 ≤ 97 := by omega
  -- the days of a trip
  have days : ∀ (t : Nat), t < xLS h 11 → ∀ (h114 : Hp) (rec114 : Hp → Nat → Hp) (mm d fu : Nat) (h132 : Hp), d + mm = ti / 1440 + 2 → ti / 1440 - 1 ≤ d → mm < fu → only57 h105 h132 (k + 1) →
      ∃ H', L_X9_reaches_132 X (nI a) (nI ti) nn h105 (k + 1) rec105 h114 t rec114 (K_X9_reaches_132 X (nI a) (nI ti) nn h105 (k + 1) rec105 h114 t rec114) fu h132 (nI d) = rec114 H' (t + 1) ∧ only57 h105 H' (k + 1) ∧
        MU (Em h132 (k + 1)) (Em H' (k + 1)) (fun s v => ∃ d', d ≤ d' ∧ d' ≤ ti / 1440 + 1 ∧ goN h t d' ∧ Cand h (Rm h105 k) t d' (lnN h t) s v) := by
    intro t ht h114 rec114 mm
    induction mm with
    | zero =>
      intro d fu h132 hd hd1 hf o
      obtain ⟨fu, rfl⟩ : ∃ g, fu = g + 1 := ⟨fu - 1, by omega⟩
      refine ⟨h132, ?_, o, MU.rf (fun s v q => by
        obtain ⟨d', q1, q2, _⟩ := q
        omega)⟩
      rw [L_X9_reaches_132_s]
      unfold B_X9_reaches_132 K_X9_reaches_132
      rw [nI_quo2 (by omega), show nI (ti / 1440) + 1 = nI (ti / 1440 + 1) from nI_add _ 1, if_pos (nI_lt (by omega) (by omega))]
    | succ mm ih =>
      intro d fu h132 hd hd1 hf o
      obtain ⟨fu, rfl⟩ : ∃ g, fu = g + 1 := ⟨fu - 1, by omega⟩
      have m2 := ma.o57 o
      have lk := looked_at W R m2 ht hti ((o.1.2.1 1022 (by decide) 0).trans e22) hd1 (show d ≤ ti / 1440 + 1 by omega)
      rw [L_X9_reaches_132_s]
      unfold B_X9_reaches_132
      rw [nI_quo2 (by omega), show nI (ti / 1440) + 1 = nI (ti / 1440 + 1) from nI_add _ 1, if_neg (nI_pos_lt (by omega) (by omega) (by omega)), show nI d + 1 = nI (d + 1) from nI_add d 1]
      have fin : ∀ {H1 H' : Hp}, MU (Em h132 (k + 1)) (Em H1 (k + 1)) (fun s v => goN h t d ∧ Cand h (Rm h105 k) t d (lnN h t) s v) → MU (Em H1 (k + 1)) (Em H' (k + 1)) (fun s v => ∃ d', d + 1 ≤ d' ∧ d' ≤ ti / 1440 + 1 ∧ goN h t d' ∧ Cand h (Rm h105 k) t d' (lnN h t) s v) → MU (Em h132 (k + 1)) (Em H' (k + 1)) (fun s v => ∃ d', d ≤ d' ∧ d' ≤ ti / 1440 + 1 ∧ goN h t d' ∧ Cand h (Rm h105 k) t d' (lnN h t) s v) := by
        intro H1 H' m1 m2
        refine m1.trans m2 (fun s v => ?_)
        constructor
        · rintro ⟨d', q1, q2, q3⟩
          by_cases e : d' = d
          · subst e
            exact .inl q3
          · exact .inr ⟨d', by omega, q2, q3⟩
        · rintro (q3 | ⟨d', q1, q2⟩)
          · exact ⟨d, Nat.le_refl _, by omega, q3⟩
          · exact ⟨d', by omega, q2⟩
      by_cases g : F_X9_isLooked h132 (nI t) (nI d) = 0
      · rw [if_pos g]
        obtain ⟨H', e, o', mu⟩ := ih (d + 1) fu h132 (by omega) (by omega) (by omega) o
        exact ⟨H', e, o', fin (MU.rf (fun s v q => lk.mp g q.1)) mu⟩
      · rw [if_neg g]
        have gg : goN h t d := Classical.byContradiction fun z => g (lk.mpr z)
        obtain ⟨o1, mu1⟩ := rides_spec W R w m2 ht (show d < 100 by omega) gg hm
        obtain ⟨H', e, o', mu⟩ := ih (d + 1) fu _ (by omega) (by omega) (by omega) (o.trans o1)
        refine ⟨H', e, o', fin (mu1.same (fun s v => ?_)) mu⟩
        rw [Rm_57 o]
        exact ⟨fun z => z.2, fun z => ⟨gg, z⟩⟩
  have trips : ∀ (mm t fu : Nat) (h114 : Hp), t + mm = xLS h 11 → mm < fu → only57 h105 h114 (k + 1) → MU (Em h105 (k + 1)) (Em h114 (k + 1)) (CandT h (Rm h105 k) (ti / 1440 - 1) (ti / 1440 + 1) t) →
      ∃ H', L_X9_reaches_114 X (nI a) (nI ti) nn h105 (k + 1) rec105 (K_X9_reaches_114 X (nI a) (nI ti) nn h105 (k + 1) rec105) fu h114 t = rec105 (F_X9_readies H' (nI (k + 1))) (k + 1 + 1) ∧ only57 h105 H' (k + 1) ∧ MU (Em h105 (k + 1)) (Em H' (k + 1)) (CandT h (Rm h105 k) (ti / 1440 - 1) (ti / 1440 + 1) (xLS h 11)) := by
    intro mm
    induction mm with
    | zero =>
      intro t fu h114 ht hf o mu
      obtain ⟨fu, rfl⟩ : ∃ g, fu = g + 1 := ⟨fu - 1, by omega⟩
      obtain rfl : t = xLS h 11 := by omega
      refine ⟨h114, ?_, o, mu⟩
      rw [L_X9_reaches_114_s]
      unfold B_X9_reaches_114 K_X9_reaches_114
      rw [((ma.o57 o).1 1003 (by decide) 0).trans R.2.2.1, if_pos (nI_le (Nat.le_refl _) (by omega))]
    | succ mm ih =>
      intro t fu h114 ht hf o mu
      obtain ⟨fu, rfl⟩ : ∃ g, fu = g + 1 := ⟨fu - 1, by omega⟩
      rw [L_X9_reaches_114_s]
      unfold B_X9_reaches_114
      rw [((ma.o57 o).1 1003 (by decide) 0).trans R.2.2.1, if_neg (fun q => by have := (nI_leI (by omega) (by omega)).mp q; omega)]
      have go : ∃ H', L_X9_reaches_132 X (nI a) (nI ti) nn h105 (k + 1) rec105 h114 t (L_X9_reaches_114 X (nI a) (nI ti) nn h105 (k + 1) rec105 (K_X9_reaches_114 X (nI a) (nI ti) nn h105 (k + 1) rec105) fu) (K_X9_reaches_132 X (nI a) (nI ti) nn h105 (k + 1) rec105 h114 t (L_X9_reaches_114 X (nI a) (nI ti) nn h105 (k + 1) rec105 (K_X9_reaches_114 X (nI a) (nI ti) nn h105 (k + 1) rec105) fu)) ((2147483647 - (nI ti / 1440 - 1).toInt).toNat + 1) h114 (nI ti / 1440 - 1) = L_X9_reaches_114 X (nI a) (nI ti) nn h105 (k + 1) rec105 (K_X9_reaches_114 X (nI a) (nI ti) nn h105 (k + 1) rec105) fu H' (t + 1) ∧ only57 h105 H' (k + 1) ∧
          MU (Em h114 (k + 1)) (Em H' (k + 1)) (fun s v => ∃ d', ti / 1440 - 1 ≤ d' ∧ d' ≤ ti / 1440 + 1 ∧ goN h t d' ∧ Cand h (Rm h105 k) t d' (lnN h t) s v) := by
        rw [nI_quo2 (by omega)]
        by_cases q0 : ti / 1440 = 0
        · have ef : (2147483647 - (nI (ti / 1440) - 1).toInt).toNat + 1 = 2147483648 + 1 := by rw [q0]; decide
          rw [ef, L_X9_reaches_132_s]
          unfold B_X9_reaches_132
          rw [nI_quo2 (by omega), q0, if_neg (by decide), looked_m1, if_pos rfl, show nI 0 - 1 + 1 = nI 0 from by decide]
          have := days t (by omega) h114 (L_X9_reaches_114 X (nI a) (nI ti) nn h105 (k + 1) rec105 (K_X9_reaches_114 X (nI a) (nI ti) nn h105 (k + 1) rec105) fu) 2 0 2147483648 h114 (by omega) (by omega) (by omega) o
          rw [q0] at this
          exact this
        · obtain ⟨m, hm2⟩ : ∃ m, ti / 1440 = m + 1 := ⟨ti / 1440 - 1, by omega⟩
          have := days t (by omega) h114 (L_X9_reaches_114 X (nI a) (nI ti) nn h105 (k + 1) rec105 (K_X9_reaches_114 X (nI a) (nI ti) nn h105 (k + 1) rec105) fu) 3 m ((2147483647 - (nI m).toInt).toNat + 1) h114 (by omega) (by omega) (by rw [nI_toInt (by omega)]; omega) o
          rw [hm2, nI_pred]
          rw [hm2] at this
          exact this
      obtain ⟨H', e, o', mu'⟩ := go
      rw [e]
      refine ih (t + 1) fu H' (by omega) (by omega) o' (mu.trans mu' (fun s v => ?_))
      unfold CandT
      constructor
      · rintro ⟨t', d, q1, q2, q3, q4⟩
        by_cases et : t' = t
        · subst et
          exact .inr ⟨d, q2, q3, q4⟩
        · exact .inl ⟨t', d, by omega, q2, q3, q4⟩
      · rintro (⟨t', d, q1, q2⟩ | ⟨d, q2, q3, q4⟩)
        · exact ⟨t', d, by omega, q2⟩
        · exact ⟨t, d, by omega, q2, q3, q4⟩
  exact trips (xLS h 11) 0 _ h105 (by omega) (by omega) only57.rf (MU.rf (fun s v q => by
    obtain ⟨t, d, q1, _⟩ := q
    exact absurd q1 (Nat.not_lt_zero _)))
