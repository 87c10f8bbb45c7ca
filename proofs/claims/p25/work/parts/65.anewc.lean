/-! ===== own: trying anew ends as the search ===== -/
/-- the least is one -/
theorem LO.uniq {N : Int} {Q : Int → Prop} {v v' : Int} (l : LO N Q v) (l' : LO N Q v') : v = v' := by
  rcases l with ⟨e, z⟩ | ⟨q, z⟩ <;> rcases l' with ⟨e', z'⟩ | ⟨q', z'⟩
  · rw [e, e']
  · exact absurd q' (z _)
  · exact absurd q (z' _)
  · have := z _ q'
    have := z' _ q
    omega
/-- less to choose from is later -/
theorem LO.le {N : Int} {Q Q' : Int → Prop} {v v' : Int} (l : LO N Q v) (l' : LO N Q' v') (hN : ∀ a, Q a → a ≤ N) (h : ∀ a', Q' a' → ∃ a, Q a ∧ a ≤ a') : v ≤ v' := by
  rcases l with ⟨e, z⟩ | ⟨q, z⟩ <;> rcases l' with ⟨e', z'⟩ | ⟨q', z'⟩
  · omega
  · obtain ⟨a, qa, -⟩ := h _ q'
    exact absurd qa (z a)
  · have := hN _ q
    omega
  · obtain ⟨a, qa, le⟩ := h _ q'
    have := z a qa
    omega
def EndW (h : Hp) (n0 : Nat) (E : Nat → Int) (b : Nat) (v : Int) : Prop := ∃ s, s < n0 ∧ E s < 1000000000 ∧ ¬ toB h b s = -1 ∧ v = E s + (toB h b s).toInt
theorem board0 {h HC : Hp} {a ti x : Nat} {dep : Int} (hd : dep < 1000000000) (l : LO 1000000000 (R0 h a ti x) (Rc HC 0 x)) : Rc HC 0 x ≤ dep ↔ (¬ CHI h a 0 x = -1 ∧ (ti : Int) + (CHI h a 0 x).toInt ≤ dep) := by
  have z0 : (0 : Int32).toInt = 0 := by decide
  rw [l.le_iff hd]
  unfold R0 CHI
  by_cases c : x = a
  · rw [if_pos c, z0]
    constructor
    · rintro ⟨v, (⟨_, e⟩ | ⟨e, _⟩), b⟩
      · exact ⟨by decide, by omega⟩
      · exact absurd c e
    · rintro ⟨_, b⟩
      exact ⟨ti, .inl ⟨c, rfl⟩, by omega⟩
  · rw [if_neg c]
    constructor
    · rintro ⟨v, (⟨e, _⟩ | ⟨_, e1, e2⟩), b⟩
      · exact absurd e c
      · exact ⟨e1, by omega⟩
    · rintro ⟨e1, b⟩
      exact ⟨_, .inr ⟨c, e1, rfl⟩, b⟩
theorem cand1 {h HC : Hp} {n0 a ti fd ld s : Nat} (w : World h n0) (hld : ld < 100) (m0 : ∀ s, s < n0 → LO 1000000000 (R0 h a ti s) (Rc HC 0 s)) (u : Int) : CandT h (Rc HC 0) fd ld (xLS h 11) s u ↔ ∃ t d, t < xLS h 11 ∧ fd ≤ d ∧ d ≤ ld ∧ goN h t d ∧ ∃ i j, i < j ∧ j < lnN h t ∧ OKB h a ti 0 t d i ∧ stN h t j = s ∧ arI h t d j = u := by
  unfold CandT Cand OKB
  constructor
  · rintro ⟨t, d, h1, h2, h3, h4, i, j, h5, h6, h7, h8⟩
    have hi := ((w.2.2.2 t h1).2.2.2.1 i (by omega)).2
    have hd := ((w.2.2.2 t h1).2.2.2.2 d (by omega) h4).1 i (by omega)
    exact ⟨t, d, h1, h2, h3, h4, i, j, h5, h6, (board0 (by omega) (m0 _ hi)).mp h7, h8⟩
  · rintro ⟨t, d, h1, h2, h3, h4, i, j, h5, h6, h7, h8⟩
    have hi := ((w.2.2.2 t h1).2.2.2.1 i (by omega)).2
    have hd := ((w.2.2.2 t h1).2.2.2.2 d (by omega) h4).1 i (by omega)
    exact ⟨t, d, h1, h2, h3, h4, i, j, h5, h6, (board0 (by omega) (m0 _ hi)).mpr h7, h8⟩
theorem anewC1 {h HC : Hp} {n0 nn a b ti : Nat} {V : Int} (w : World h n0) (sm : Small h n0) (hb : b < n0) (hti : ti ≤ 140000) (hnn : 1 ≤ nn) (m : SearchC h HC n0 nn a b ti) (l : LO 1000000000 (EndW h n0 (Ec HC 1) b) V) : LO 1000000000 (E1 h b (ti / 1440 - 1) (ti / 1440 + 1) a ti 0) V := by
  obtain ⟨-, -, -, -, -, -, m0, ms⟩ := m
  have hld : ti / 1440 + 1 < 100 := by omega
  refine (LO.comp (C := fun s u => CandT h (Rc HC 0) (ti / 1440 - 1) (ti / 1440 + 1) (xLS h 11) s u) (E := Ec HC 1) (c := toB h b) (fun s hs => (ms 0 (by omega) s hs).1) (fun s u hs c => by
    have := CandT.bnd w hld c
    omega) l).same (fun v => ?_)
  unfold E1 Er1 K1
  constructor
  · rintro ⟨t, d, h1, h2, h3, h4, i, j, h5, h6, h7, h8, h9⟩
    have hj := ((w.2.2.2 t h1).2.2.2.1 j h6).2
    exact ⟨stN h t j, arI h t d j, hj, (cand1 w hld m0 _).mpr ⟨t, d, h1, h2, h3, h4, i, j, h5, h6, h7, rfl, rfl⟩, h8, h9⟩
  · rintro ⟨s, u, hs, c, h8, h9⟩
    obtain ⟨t, d, h1, h2, h3, h4, i, j, h5, h6, h7, rfl, rfl⟩ := (cand1 w hld m0 _).mp c
    exact ⟨t, d, h1, h2, h3, h4, i, j, h5, h6, h7, h8, h9⟩
theorem anewC2 {h HC : Hp} {n0 nn a b ti : Nat} {V : Int} (w : World h n0) (sm : Small h n0) (hb : b < n0) (hti : ti ≤ 140000) (hnn : 2 ≤ nn) (m : SearchC h HC n0 nn a b ti) (l : LO 1000000000 (EndW h n0 (Ec HC 2) b) V) : LO 1000000000 (E2 h b (ti / 1440 - 1) (ti / 1440 + 1) a ti 0) V := by
  obtain ⟨-, -, -, -, -, -, m0, ms⟩ := m
  have hld : ti / 1440 + 1 < 100 := by omega
  -- ready behind the first ride
  have r1 : ∀ x, x < n0 → LO 1000000000 (fun v => ∃ y u, y < n0 ∧ CandT h (Rc HC 0) (ti / 1440 - 1) (ti / 1440 + 1) (xLS h 11) y u ∧ ¬ chI h y x = -1 ∧ v = u + (chI h y x).toInt) (Rc HC 1 x) := fun x hx =>
    LO.comp (C := fun s u => CandT h (Rc HC 0) (ti / 1440 - 1) (ti / 1440 + 1) (xLS h 11) s u) (E := Ec HC 1) (c := fun y => chI h y x) (fun s hs => (ms 0 (by omega) s hs).1) (fun s u hs c => by
      have := CandT.bnd w hld c
      omega) (ms 0 (by omega) x hx).2
  refine (LO.comp (C := fun s u => CandT h (Rc HC 1) (ti / 1440 - 1) (ti / 1440 + 1) (xLS h 11) s u) (E := Ec HC 2) (c := toB h b) (fun s hs => (ms 1 (by omega) s hs).1) (fun s u hs c => by
    have := CandT.bnd w hld c
    omega) l).same (fun v => ?_)
  unfold E2 Er2 K2 E1 Er1 K1
  constructor
  · rintro ⟨t, d, h1, h2, h3, h4, i, j, h5, h6, h7, t', d', g1, g2, g3, g4, i', j', g5, g6, g7, g8, g9⟩
    have hj := ((w.2.2.2 t h1).2.2.2.1 j h6).2
    have hj' := ((w.2.2.2 t' g1).2.2.2.1 j' g6).2
    have hi' := ((w.2.2.2 t' g1).2.2.2.1 i' (by omega)).2
    have hd' := ((w.2.2.2 t' g1).2.2.2.2 d' (by omega) g4).1 i' (by omega)
    unfold OKB at g7
    rw [CHI_ch] at g7
    refine ⟨stN h t' j', arI h t' d' j', hj', ⟨t', d', g1, g2, g3, g4, i', j', g5, g6, ?_, rfl, rfl⟩, g8, g9⟩
    exact ((r1 _ hi').le_iff (by omega)).mpr ⟨_, ⟨stN h t j, arI h t d j, hj, (cand1 w hld m0 _).mpr ⟨t, d, h1, h2, h3, h4, i, j, h5, h6, h7, rfl, rfl⟩, g7.1, rfl⟩, g7.2⟩
  · rintro ⟨s, u, hs, ⟨t', d', g1, g2, g3, g4, i', j', g5, g6, g7, rfl, rfl⟩, g8, g9⟩
    have hi' := ((w.2.2.2 t' g1).2.2.2.1 i' (by omega)).2
    have hd' := ((w.2.2.2 t' g1).2.2.2.2 d' (by omega) g4).1 i' (by omega)
    obtain ⟨x, ⟨y, u, hy, c, e1, rfl⟩, e2⟩ := ((r1 _ hi').le_iff (by omega)).mp g7
    obtain ⟨t, d, h1, h2, h3, h4, i, j, h5, h6, h7, rfl, rfl⟩ := (cand1 w hld m0 _).mp c
    refine ⟨t, d, h1, h2, h3, h4, i, j, h5, h6, h7, t', d', g1, g2, g3, g4, i', j', g5, g6, ?_, g8, g9⟩
    unfold OKB
    rw [CHI_ch]
    exact ⟨e1, e2⟩
/-- behind the first ride or later: earlier than 300000, or never -/
theorem hEcC {h HC : Hp} {n0 n a b ti : Nat} (w : World h n0) (hti : ti ≤ 140000) (c : SearchC h HC n0 n a b ti) : ∀ k, k ≠ 0 → k ≤ n → ∀ s, s < n0 → 0 ≤ Ec HC k s ∧ (Ec HC k s ≤ 300000 ∨ Ec HC k s = 1000000000) := by
  intro k hk hkn s hs
  obtain ⟨m, rfl⟩ : ∃ m, k = m + 1 := ⟨k - 1, by omega⟩
  exact ((c.2.2.2.2.2.2.2 m (by omega) s hs).1).val (fun a q => CandT.bnd w (by omega) q) (by decide)
/-- the end by k rides -/
theorem endC {h HC : Hp} {n0 n a b ti k : Nat} (w : World h n0) (sm : Small h n0) (hb : b < n0) (hti : ti ≤ 140000) (c : SearchC h HC n0 n a b ti) (hk : k ≠ 0) (hkn : k ≤ n) (hn : n ≤ 4) : LO 1000000000 (EndW h n0 (Ec HC k) b) (F_X5_end HC (nI k)).toInt := by
  obtain ⟨w', -⟩ := w.fx c.1 (by decide)
  have sm' : Small HC n0 := fun x y hx hy => by rw [chI_fx c.1]; exact sm x y hx hy
  refine (end_spec w' sm' (by omega) hb c.2.2.1 (hEcC w hti c k hk hkn)).same (fun v => ?_)
  rw [EndQ.alt]
  have e : ∀ s, toB HC b s = toB h b s := fun s => by
    unfold toB
    rw [c.1.2.2 23 (by decide)]
  unfold EndW
  simp only [e]
theorem EndW.bnd {h HC : Hp} {n0 n a b ti k : Nat} {v : Int} (w : World h n0) (sm : Small h n0) (hb : b < n0) (hti : ti ≤ 140000) (c : SearchC h HC n0 n a b ti) (hk : k ≠ 0) (hkn : k ≤ n) (q : EndW h n0 (Ec HC k) b v) : 0 ≤ v ∧ v ≤ 300200 := by
  obtain ⟨s, hs, h1, h2, rfl⟩ := q
  have := hEcC w hti c k hk hkn s hs
  rcases toB_sm sm hb hs with z | z
  · exact absurd z h2
  · omega
/-- trying anew ends as the search does -/
theorem tryC {h HC : Hp} {n0 a b ti k n : Nat} (R : RC h) (hs0 : RStop h n0) (w : World h n0) (ha : a < n0) (hb : b < n0) (hti : ti ≤ 140000) (hk1 : 1 ≤ k) (hk2 : k ≤ 2) (hn : n ≤ 4) (hkn : k ≤ n) (c : SearchC h HC n0 n a b ti) :
    (F_X6_tryAll h (nI a) (nI b) (nI ti) (nI k)).1.toInt = (F_X5_end HC (nI k)).toInt ∧ FX [701, 702, 703, 704] ss2 h (F_X6_tryAll h (nI a) (nI b) (nI ti) (nI k)).2 := by
  have sm := small_of R hs0
  have hld : ti / 1440 + 1 < 100 := by omega
  have l := endC w sm hb hti c (show k ≠ 0 by omega) hkn hn
  have z0 : (0 : Int32).toInt = 0 := by decide
  have htf : ∀ x, x < n0 → 0 ≤ (xAI h 22 0 x).toInt ∧ (xAI h 22 0 x).toInt ≤ 200 := fun x hx => by
    obtain ⟨w', h1, h2⟩ := hs0.2.2 x hx
    rw [h2, nI_toInt (by omega)]
    omega
  generalize hT : sFI (sFI (sFI (sFI h 701 0 (nI b)) 702 0 (F_X8_firstDayFor (nI ti))) 703 0 (F_X8_lastDayFor (nI ti))) 704 0 1000000000 = T
  have e7 : xFI T 704 0 = 1000000000 := by rw [← hT, fi_eq]
  have ts : TS h T b (ti / 1440 - 1) (ti / 1440 + 1) := by
    refine ⟨?_, ?_, ?_, ?_, ?_, ?_⟩
    · rw [← hT]
      exact (((FX.sfi (by decide)).trans (FX.sfi (by decide))).trans (FX.sfi (by decide))).trans (FX.sfi (by decide))
    · rw [← hT, fi_ne (by decide), fi_ne (by decide), fi_ne (by decide), fi_eq]
    · rw [← hT, fi_ne (by decide), fi_ne (by decide), fi_eq, first_at hti]
    · rw [← hT, fi_ne (by decide), fi_eq, last_at hti]
    · rw [e7]
      decide
    · rw [e7]
      decide
  have hti2 : 0 ≤ (nI ti).toInt ∧ (nI ti).toInt ≤ 200000 := by
    rw [nI_toInt (by omega)]
    omega
  have et : (nI ti).toInt = (ti : Int) := nI_toInt (by omega)
  unfold F_X6_tryAll
  rcases (show k = 1 ∨ k = 2 by omega) with rfl | rfl
  · rw [if_pos (show nI 1 = 1 from rfl)]
    unfold F_X6_tryAll1
    rw [hT]
    obtain ⟨y, lw⟩ := goOn1_spec (ti := nI ti) (tf := 0) w sm hb hld ha hti2 (by decide) (by omega) ts
    rw [e7, N9, et] at lw
    exact ⟨(lw.lo (fun v q => by
      have := E1.bnd w sm hb hld q
      omega)).uniq (anewC1 w sm hb hti hkn c l), y.1⟩
  · rw [if_neg (show ¬ nI 2 = 1 by decide)]
    unfold F_X6_tryAll2
    rw [hT]
    obtain ⟨y, lw⟩ := goOn2_spec (ti := nI ti) (tf := 0) w sm hb hld htf ha hti2 (by decide) (by omega) ts
    rw [e7, N9, et] at lw
    exact ⟨(lw.lo (fun v q => by
      have := E2.bnd w sm hb hld q
      omega)).uniq (anewC2 w sm hb hti hkn c l), y.1⟩
