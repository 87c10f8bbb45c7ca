/-! ===== own: trying all finds what the search finds ===== -/
theorem LO.comp {N : Int} {n0 : Nat} {C : Nat → Int → Prop} {E : Nat → Int} {c : Nat → Int32} {V : Int} (hE : ∀ s, s < n0 → LO N (C s) (E s)) (hC : ∀ s u, s < n0 → C s u → u < N) (hV : LO N (fun v => ∃ s, s < n0 ∧ E s < N ∧ ¬ c s = -1 ∧ v = E s + (c s).toInt) V) :
    LO N (fun v => ∃ s u, s < n0 ∧ C s u ∧ ¬ c s = -1 ∧ v = u + (c s).toInt) V := by
  have low : ∀ s u, s < n0 → C s u → E s ≤ u := fun s u hs hc => by
    rcases hE s hs with ⟨_, z⟩ | ⟨_, z⟩
    · exact absurd hc (z u)
    · exact z u hc
  rcases hV with ⟨e, z⟩ | ⟨⟨s, h1, h2, h3, h4⟩, z⟩
  · refine .inl ⟨e, fun v => ?_⟩
    rintro ⟨s, u, h1, h2, h3, h4⟩
    have := low s u h1 h2
    have := hC s u h1 h2
    exact z _ ⟨s, h1, by omega, h3, rfl⟩
  · refine .inr ⟨?_, fun v => ?_⟩
    · rcases hE s h1 with ⟨e, _⟩ | ⟨q, _⟩
      · omega
      · exact ⟨s, E s, h1, q, h3, h4⟩
    · rintro ⟨s, u, h1, h2, h3, h4⟩
      have a1 := low s u h1 h2
      have a2 := hC s u h1 h2
      have := z _ ⟨s, h1, by omega, h3, rfl⟩
      omega
theorem LO.le_iff {N : Int} {Q : Int → Prop} {V x : Int} (l : LO N Q V) (hx : x < N) : V ≤ x ↔ ∃ v, Q v ∧ v ≤ x := by
  rcases l with ⟨e, z⟩ | ⟨q, z⟩
  · constructor
    · intro y
      omega
    · rintro ⟨v, a, b⟩
      exact absurd a (z v)
  · constructor
    · intro y
      exact ⟨V, q, y⟩
    · rintro ⟨v, a, b⟩
      have := z v a
      omega
theorem LW.lo {N L : Int} {Q : Int → Prop} (l : LW N L Q) (h : ∀ v, Q v → v < N) : LO N Q L := by
  obtain ⟨l1, l2, l3⟩ := l
  rcases l2 with e | q
  · refine .inl ⟨e, fun v qv => ?_⟩
    have := l3 v qv
    have := h v qv
    omega
  · exact .inr ⟨q, l3⟩
theorem CHI_ch {h : Hp} {s x : Nat} : CHI h s (xAI h 22 0 s) x = chI h s x := by
  unfold CHI chI
  by_cases c : x = s
  · subst c
    rw [if_pos rfl]
  · rw [if_neg c, if_neg (fun z => c z.symm)]
theorem board0 {h HM : Hp} {a ti x : Nat} {dep : Int} (hd : dep < 100000000) (l : LO 100000000 (R0 h a ti x) (Rm HM 0 x)) : Rm HM 0 x ≤ dep ↔ (¬ CHI h a 0 x = -1 ∧ (ti : Int) + (CHI h a 0 x).toInt ≤ dep) := by
  have z0 : (0 : Int32).toInt = 0 := by decide
  rw [l.le_iff hd]
  unfold R0 CHI
  by_cases c : x = a
  · rw [if_pos c, z0]
    constructor
    · rintro ⟨v, (⟨_, e⟩ | ⟨e, _⟩), b⟩
      · exact ⟨by decide, by omega⟩
      · exact absurd c e
    · rintro ⟨_, b⟩
      exact ⟨ti, .inl ⟨c, rfl⟩, by omega⟩
  · rw [if_neg c]
    constructor
    · rintro ⟨v, (⟨e, _⟩ | ⟨_, e1, e2⟩), b⟩
      · exact absurd e c
      · exact ⟨e1, by omega⟩
    · rintro ⟨e1, b⟩
      exact ⟨_, .inr ⟨c, e1, rfl⟩, b⟩
/-- a ride from the start on, both ways -/
theorem cand1 {h HM : Hp} {n0 nn a ti fd ld s : Nat} (w : World h n0) (hld : ld < 100) (m0 : ∀ s, s < n0 → LO 100000000 (R0 h a ti s) (Rm HM 0 s)) (u : Int) : CandT h (Rm HM 0) fd ld (xLS h 11) s u ↔ ∃ t d, t < xLS h 11 ∧ fd ≤ d ∧ d ≤ ld ∧ goN h t d ∧ ∃ i j, i < j ∧ j < lnN h t ∧ OKB h a ti 0 t d i ∧ stN h t j = s ∧ arI h t d j = u := by
  unfold CandT Cand OKB
  constructor
  · rintro ⟨t, d, h1, h2, h3, h4, i, j, h5, h6, h7, h8⟩
    have hi := ((w.2.2.2 t h1).2.2.2.1 i (by omega)).2
    have hd := ((w.2.2.2 t h1).2.2.2.2 d (by omega) h4).1 i (by omega)
    exact ⟨t, d, h1, h2, h3, h4, i, j, h5, h6, (board0 (by omega) (m0 _ hi)).mp h7, h8⟩
  · rintro ⟨t, d, h1, h2, h3, h4, i, j, h5, h6, h7, h8⟩
    have hi := ((w.2.2.2 t h1).2.2.2.1 i (by omega)).2
    have hd := ((w.2.2.2 t h1).2.2.2.2 d (by omega) h4).1 i (by omega)
    exact ⟨t, d, h1, h2, h3, h4, i, j, h5, h6, (board0 (by omega) (m0 _ hi)).mpr h7, h8⟩
theorem anew1 {h HM : Hp} {n0 nn a b ti : Nat} {V : Int} (w : World h n0) (sm : Small h n0) (hb : b < n0) (hti : ti ≤ 140000) (hnn : 1 ≤ nn) (m : SearchM h HM n0 nn a ti) (l : LO 100000000 (EndM h n0 (Em HM 1) b) V) : LO 100000000 (E1 h b (ti / 1440 - 1) (ti / 1440 + 1) a ti 0) V := by
  obtain ⟨-, m0, ms, -⟩ := m
  have hld : ti / 1440 + 1 < 100 := by omega
  refine (LO.comp (C := fun s u => CandT h (Rm HM 0) (ti / 1440 - 1) (ti / 1440 + 1) (xLS h 11) s u) (E := Em HM 1) (c := toB h b) (fun s hs => (ms 0 (by omega) s hs).1) (fun s u hs c => by
    have := CandT.bnd w hld c
    omega) l).same (fun v => ?_)
  unfold E1 Er1 K1
  constructor
  · rintro ⟨t, d, h1, h2, h3, h4, i, j, h5, h6, h7, h8, h9⟩
    have hj := ((w.2.2.2 t h1).2.2.2.1 j h6).2
    exact ⟨stN h t j, arI h t d j, hj, (cand1 (nn := nn) w hld m0 _).mpr ⟨t, d, h1, h2, h3, h4, i, j, h5, h6, h7, rfl, rfl⟩, h8, h9⟩
  · rintro ⟨s, u, hs, c, h8, h9⟩
    obtain ⟨t, d, h1, h2, h3, h4, i, j, h5, h6, h7, rfl, rfl⟩ := (cand1 (nn := nn) w hld m0 _).mp c
    exact ⟨t, d, h1, h2, h3, h4, i, j, h5, h6, h7, h8, h9⟩
theorem anew2 {h HM : Hp} {n0 nn a b ti : Nat} {V : Int} (w : World h n0) (sm : Small h n0) (hb : b < n0) (hti : ti ≤ 140000) (hnn : 2 ≤ nn) (m : SearchM h HM n0 nn a ti) (l : LO 100000000 (EndM h n0 (Em HM 2) b) V) : LO 100000000 (E2 h b (ti / 1440 - 1) (ti / 1440 + 1) a ti 0) V := by
  obtain ⟨-, m0, ms, -⟩ := m
  have hld : ti / 1440 + 1 < 100 := by omega
  -- ready behind the first ride
  have r1 : ∀ x, x < n0 → LO 100000000 (fun v => ∃ y u, y < n0 ∧ CandT h (Rm HM 0) (ti / 1440 - 1) (ti / 1440 + 1) (xLS h 11) y u ∧ ¬ chI h y x = -1 ∧ v = u + (chI h y x).toInt) (Rm HM 1 x) := fun x hx =>
    LO.comp (C := fun s u => CandT h (Rm HM 0) (ti / 1440 - 1) (ti / 1440 + 1) (xLS h 11) s u) (E := Em HM 1) (c := fun y => chI h y x) (fun s hs => (ms 0 (by omega) s hs).1) (fun s u hs c => by
      have := CandT.bnd w hld c
      omega) (ms 0 (by omega) x hx).2
  refine (LO.comp (C := fun s u => CandT h (Rm HM 1) (ti / 1440 - 1) (ti / 1440 + 1) (xLS h 11) s u) (E := Em HM 2) (c := toB h b) (fun s hs => (ms 1 (by omega) s hs).1) (fun s u hs c => by
    have := CandT.bnd w hld c
    omega) l).same (fun v => ?_)
  unfold E2 Er2 K2 E1 Er1 K1
  constructor
  · rintro ⟨t, d, h1, h2, h3, h4, i, j, h5, h6, h7, t', d', g1, g2, g3, g4, i', j', g5, g6, g7, g8, g9⟩
    have hj := ((w.2.2.2 t h1).2.2.2.1 j h6).2
    have hj' := ((w.2.2.2 t' g1).2.2.2.1 j' g6).2
    have hi' := ((w.2.2.2 t' g1).2.2.2.1 i' (by omega)).2
    have hd' := ((w.2.2.2 t' g1).2.2.2.2 d' (by omega) g4).1 i' (by omega)
    unfold OKB at g7
    rw [CHI_ch] at g7
    refine ⟨stN h t' j', arI h t' d' j', hj', ⟨t', d', g1, g2, g3, g4, i', j', g5, g6, ?_, rfl, rfl⟩, g8, g9⟩
    exact ((r1 _ hi').le_iff (by omega)).mpr ⟨_, ⟨stN h t j, arI h t d j, hj, (cand1 (nn := nn) w hld m0 _).mpr ⟨t, d, h1, h2, h3, h4, i, j, h5, h6, h7, rfl, rfl⟩, g7.1, rfl⟩, g7.2⟩
  · rintro ⟨s, u, hs, ⟨t', d', g1, g2, g3, g4, i', j', g5, g6, g7, rfl, rfl⟩, g8, g9⟩
    have hi' := ((w.2.2.2 t' g1).2.2.2.1 i' (by omega)).2
    have hd' := ((w.2.2.2 t' g1).2.2.2.2 d' (by omega) g4).1 i' (by omega)
    obtain ⟨x, ⟨y, u, hy, c, e1, rfl⟩, e2⟩ := ((r1 _ hi').le_iff (by omega)).mp g7
    obtain ⟨t, d, h1, h2, h3, h4, i, j, h5, h6, h7, rfl, rfl⟩ := (cand1 (nn := nn) w hld m0 _).mp c
    refine ⟨t, d, h1, h2, h3, h4, i, j, h5, h6, h7, t', d', g1, g2, g3, g4, i', j', g5, g6, ?_, g8, g9⟩
    unfold OKB
    rw [CHI_ch]
    exact ⟨e1, e2⟩
theorem E1.bnd {h : Hp} {n0 b fd ld s : Nat} {ti : Int} {tf : Int32} {v : Int} (w : World h n0) (sm : Small h n0) (hb : b < n0) (hld : ld < 100) (q : E1 h b fd ld s ti tf v) : 0 ≤ v ∧ v ≤ 300000 := by
  obtain ⟨t, d, a1, a2, a3, hg, i, j, a4, a5, a6, a7⟩ := q
  have hj := ((w.2.2.2 t a1).2.2.2.1 j a5).2
  have hd := ((w.2.2.2 t a1).2.2.2.2 d (by omega) hg).2 j a5 (by omega)
  have := (toB_sm sm hb hj).resolve_left a7.1
  have := a7.2
  omega
theorem E2.bnd {h : Hp} {n0 b fd ld s : Nat} {ti : Int} {tf : Int32} {v : Int} (w : World h n0) (sm : Small h n0) (hb : b < n0) (hld : ld < 100) (q : E2 h b fd ld s ti tf v) : 0 ≤ v ∧ v ≤ 300000 := by
  obtain ⟨t, d, a1, a2, a3, hg, i, j, a4, a5, a6, a7⟩ := q
  exact E1.bnd w sm hb hld a7
/-- what trying all comes to -/
theorem tryAll_spec {h HM : Hp} {n0 a b ti k : Nat} (R : RC h) (hs0 : RStop h n0) (w : World h n0) (ha : a < n0) (hb : b < n0) (hti : ti ≤ 140000) (hk1 : 1 ≤ k) (hk2 : k ≤ 2) (m : SearchM h HM n0 k a ti) (hE : ∀ s, s < n0 → 0 ≤ Em HM k s ∧ (Em HM k s ≤ 300000 ∨ Em HM k s = 100000000)) :
    REL (F_X6_tryAll h (nI a) (nI b) (nI ti) (nI k)).1.toInt (F_X9_timeBy HM (nI b) (nI k)).toInt ∧ FX [701, 702, 703, 704] ss2 h (F_X6_tryAll h (nI a) (nI b) (nI ti) (nI k)).2 := by
  have sm := small_of R hs0
  have hld : ti / 1440 + 1 < 100 := by omega
  have l := timeBy_spec R hs0 m.1 (show k < 5 by omega) hb hE
  have z0 : (0 : Int32).toInt = 0 := by decide
  have htf : ∀ x, x < n0 → 0 ≤ (xAI h 22 0 x).toInt ∧ (xAI h 22 0 x).toInt ≤ 200 := fun x hx => by
    obtain ⟨w', h1, h2, -⟩ := hs0.2.2.2 x hx
    rw [h2, nI_toInt (by omega)]
    omega
  generalize hT : sFI (sFI (sFI (sFI h 701 0 (nI b)) 702 0 (F_X8_firstDayFor (nI ti))) 703 0 (F_X8_lastDayFor (nI ti))) 704 0 1000000000 = T
  have e7 : xFI T 704 0 = 1000000000 := by rw [← hT, fi_eq]
  have ts : TS h T b (ti / 1440 - 1) (ti / 1440 + 1) := by
    refine ⟨?_, ?_, ?_, ?_, ?_, ?_⟩
    · rw [← hT]
      exact (((FX.sfi (by decide)).trans (FX.sfi (by decide))).trans (FX.sfi (by decide))).trans (FX.sfi (by decide))
    · rw [← hT, fi_ne (by decide), fi_ne (by decide), fi_ne (by decide), fi_eq]
    · rw [← hT, fi_ne (by decide), fi_ne (by decide), fi_eq, first_at hti]
    · rw [← hT, fi_ne (by decide), fi_eq, last_at hti]
    · rw [e7]
      decide
    · rw [e7]
      decide
  have hti2 : 0 ≤ (nI ti).toInt ∧ (nI ti).toInt ≤ 200000 := by
    rw [nI_toInt (by omega)]
    omega
  have et : (nI ti).toInt = (ti : Int) := nI_toInt (by omega)
  unfold F_X6_tryAll
  rcases (show k = 1 ∨ k = 2 by omega) with rfl | rfl
  · rw [if_pos (show nI 1 = 1 from rfl)]
    unfold F_X6_tryAll1
    rw [hT]
    obtain ⟨y, lw⟩ := goOn1_spec (ti := nI ti) (tf := 0) w sm hb hld ha hti2 (by decide) (by omega) ts
    rw [e7, N9, et] at lw
    exact ⟨REL.lo (lw.lo (fun v q => by
      have := E1.bnd w sm hb hld q
      omega)) (anew1 w sm hb hti (Nat.le_refl _) m l) (fun v q => E1.bnd w sm hb hld q), y.1⟩
  · rw [if_neg (show ¬ nI 2 = 1 by decide)]
    unfold F_X6_tryAll2
    rw [hT]
    obtain ⟨y, lw⟩ := goOn2_spec (ti := nI ti) (tf := 0) w sm hb hld htf ha hti2 (by decide) (by omega) ts
    rw [e7, N9, et] at lw
    exact ⟨REL.lo (lw.lo (fun v q => by
      have := E2.bnd w sm hb hld q
      omega)) (anew2 w sm hb hti (Nat.le_refl _) m l) (fun v q => E2.bnd w sm hb hld q), y.1⟩
theorem ag_arrivalAnew {S : Nat → Int32} {N : Nat} {h : Hp} (I : Inv S N h) (a b ti n : Int32) : AG S N [cy_e3, cy_e1] (F_X8_arrivalAnew h a b ti n).1 (A1_arrivalAnew h a b ti n) (F_X9_arrivalAnew (A1_arrivalAnew h a b ti n) a b ti n).2 (xAL (F_X9_arrivalAnew (A1_arrivalAnew h a b ti n) a b ti n).2 0 = (F_X9_arrivalAnew (A1_arrivalAnew h a b ti n) a b ti n).1.toInt64) := by
  obtain ⟨n0, hs0, w⟩ := world_of I.W I.R
  have h10 := hs0.1
  by_cases p : okW h a b ti
  · by_cases pn : okR n 1 2
    · obtain ⟨i, j, t, hi, hj, hij, ht, rfl, rfl, rfl⟩ := okW_of h10 hs0.2.1 p
      obtain ⟨k, rfl, hk1, hk2⟩ := okR_of (a := 1) (n := 2) (by decide) (by decide) pn
      have sm0 := small_of I.R hs0
      have e8 : F_X8_arrivalAnew h (nI i) (nI j) (nI t) (nI k) = (.inl (some (.inl (.int (F_X8_timeOrNone ((F_X6_tryAll h (nI i) (nI j) (nI t) (nI k)).1))))), (F_X6_tryAll h (nI i) (nI j) (nI t) (nI k)).2) := by
        unfold F_X8_arrivalAnew
        rw [if_pos p, if_pos pn]
      -- the search's own values
      have hE : ∀ HM, SearchM h HM n0 k i t → ∀ s, s < n0 → 0 ≤ Em HM k s ∧ (Em HM k s ≤ 300000 ∨ Em HM k s = 100000000) := fun HM m s hs => by
        have sc := seek_spec w sm0 (b := j) hi ht (show k ≤ 4 by omega)
        have := ((meet w sm0 hi ht sc m k (Nat.le_refl _)).2 (by omega) s hs).1
        unfold REL at this
        omega
      have TA := fun (HM : Hp) (m : SearchM h HM n0 k i t) => tryAll_spec I.R hs0 w hi hj ht hk1 hk2 m (hE HM m)
      have fx0 : FX [701, 702, 703, 704] ss2 h (F_X6_tryAll h (nI i) (nI j) (nI t) (nI k)).2 := by
        obtain ⟨m, -⟩ := reaches_spec (nn := k) I.W I.R hs0 w (⟨fun _ _ _ => rfl, fun _ _ _ _ => rfl⟩ : MA h h) hi ht (by omega)
        exact (TA _ m).2
      generalize F_X6_tryAll h (nI i) (nI j) (nI t) (nI k) = TT at e8 TA fx0
      obtain ⟨e, X⟩ := TT
      dsimp only at e8 TA fx0
      have fq : FQ h X := fx0.fq (by decide) (by decide)
      have D : DM X := I.D.fx fx0 (by decide) (by decide)
      have eA : A1_arrivalAnew h (nI i) (nI j) (nI t) (nI k) = sAL X (F_X8_timeOrNone e).toInt64 := by unfold A1_arrivalAnew; rw [e8]; rfl
      rw [eA, e8]
      have p2 : okWM (sAL X (F_X8_timeOrNone e).toInt64) (nI i) (nI j) (nI t) := (okWM_iff h10 hs0.2.1 ((fq.2.1 1000 (by decide) 0).trans hs0.2.2.1)).mpr p
      have m1 : MA h (sFI (sFI (sAL X (F_X8_timeOrNone e).toInt64) 1043 0 0) 1043 0 0) := ((MA.fq fq).al (v := (F_X8_timeOrNone e).toInt64)).fx (fs := [1043]) (ss := []) ((FX.sfi (by decide)).trans (FX.sfi (by decide))) (by decide) (by decide)
      obtain ⟨sm, fx⟩ := reaches_spec (nn := k) I.W I.R hs0 w m1 hi ht (by omega)
      obtain ⟨rl, -⟩ := TA _ sm
      unfold F_X9_arrivalAnew
      rw [if_pos pn, if_pos p2]
      have fqm : FQ (sAL X (F_X8_timeOrNone e).toInt64) (F_X9_reaches (sFI (sFI (sAL X (F_X8_timeOrNone e).toInt64) 1043 0 0) 1043 0 0) (nI i) (nI t) (nI k)) := fqe2.trans (fx.fq (by decide) (by decide))
      have e43 : xFI (F_X9_reaches (sFI (sFI (sAL X (F_X8_timeOrNone e).toInt64) 1043 0 0) 1043 0 0) (nI i) (nI t) (nI k)) 1043 0 = 0 := (fx.2.1 1043 (by decide) 0).trans rfl
      have eal : xAL (F_X9_reaches (sFI (sFI (sAL X (F_X8_timeOrNone e).toInt64) 1043 0 0) 1043 0 0) (nI i) (nI t) (nI k)) 0 = (F_X8_timeOrNone e).toInt64 := (al_sr fx.1).trans rfl
      generalize F_X9_reaches (sFI (sFI (sAL X (F_X8_timeOrNone e).toInt64) 1043 0 0) 1043 0 0) (nI i) (nI t) (nI k) = HM at rl fqm e43 eal
      have ev : (if F_X9_timeBy HM (nI j) (nI k) = 100000000 then ((-1 : Int32), HM) else (F_X9_timeBy HM (nI j) (nI k), HM)) = (F_X8_timeOrNone e, HM) := by
        unfold F_X8_timeOrNone
        have rn := rl.none
        by_cases c : (1000000000 : Int32) ≤ e
        · have c2 := c
          rw [Int32.le_iff_toInt_le, N9] at c2
          rw [if_pos c, if_pos (Int32.toInt_inj.mp ((rn.mp c2).trans N8.symm))]
        · have c2 := c
          rw [Int32.le_iff_toInt_le, N9] at c2
          have c3 : F_X9_timeBy HM (nI j) (nI k) = e := Int32.toInt_inj.mp (rl.some (by omega))
          rw [if_neg c, if_neg (fun q => c2 (rn.mpr (by rw [q]; exact N8))), c3]
      rw [ev]
      exact ag_ans I fq D fqm e43 eal
    · have e8 : F_X8_arrivalAnew h a b ti n = (.inr cy_e1, h) := by unfold F_X8_arrivalAnew; rw [if_pos p, if_neg pn]
      have eA : A1_arrivalAnew h a b ti n = h := by unfold A1_arrivalAnew; rw [e8]; rfl
      have ee : eW h a b = cy_e1 := by unfold eW; rw [if_pos p.1]
      rw [eA, e8]
      unfold F_X9_arrivalAnew
      rw [if_neg pn]
      exact ag_way1 I (by decide +kernel) (by decide +kernel) ee (aw0_eq h10 hs0.2.1 hs0.2.2.1 a b ti)
  · have e8 : F_X8_arrivalAnew h a b ti n = (.inr (eW h a b), h) := by unfold F_X8_arrivalAnew; rw [if_neg p]
    have eA : A1_arrivalAnew h a b ti n = h := by unfold A1_arrivalAnew; rw [e8]; rfl
    rw [eA, e8]
    unfold F_X9_arrivalAnew
    by_cases pn : okR n 1 2
    · rw [if_pos pn, if_neg (fun q => p ((okWM_iff h10 hs0.2.1 hs0.2.2.1).mp q))]
      exact ag_way I (by decide +kernel) (by decide +kernel) (aw1_eq h10 hs0.2.1 hs0.2.2.1 p)
    · rw [if_neg pn]
      exact ag_way I (by decide +kernel) (by decide +kernel) (aw0_eq h10 hs0.2.1 hs0.2.2.1 a b ti)
