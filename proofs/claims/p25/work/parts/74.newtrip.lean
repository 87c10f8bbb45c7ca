/-! ===== own: a new trip ===== -/
theorem gb_iff {h : Hp} {j t : Nat} {R : List Nat} {dy : Int32} : ¬ F_X2_goesBy h j R t dy = 0 ↔ ∃ r, r ∈ R ∧ xFI h 800 (tr h r) = xFI h 800 t ∧ (dy = -1 ∨ xFI h 501 r = dy) := by
  rcases gb_spec (h := h) (j := j) (t := t) (dy := dy) R R with ⟨e, r⟩ | ⟨e, r⟩
  · constructor
    · intro _; exact r
    · intro _ z
      have : F_X2_goesBy h j R t dy = 1 := e
      rw [this] at z
      exact absurd z (by decide)
  · constructor
    · intro z; exact absurd e z
    · rintro ⟨x, x1, x2⟩; exact absurd x2 (r x x1)
theorem ind_iff {h : Hp} {t b : Nat} {dy : Int32} : ind h t dy b = 1 ↔ ¬ xFI h 103 b = 2 ∧ ∃ r, r ∈ rls h (bj h b) ∧ xFI h 800 (tr h r) = xFI h 800 t ∧ (dy = -1 ∨ xFI h 501 r = dy) := by
  rw [← gb_iff (j := bj h b)]
  unfold ind
  by_cases c : xFI h 103 b = 2
  · rw [if_pos c]
    exact ⟨fun z => absurd z (by decide), fun z => absurd c z.1⟩
  · rw [if_neg c]
    by_cases c2 : F_X2_goesBy h (bj h b) (rls h (bj h b)) t dy = 0
    · rw [if_pos c2]
      exact ⟨fun z => absurd z (by decide), fun z => absurd c2 z.2⟩
    · rw [if_neg c2]
      exact ⟨fun _ => ⟨c, c2⟩, fun _ => rfl⟩
theorem ind_01 (h : Hp) (t b : Nat) (dy : Int32) : ind h t dy b = 0 ∨ ind h t dy b = 1 := by
  have := ind_le h t dy b
  omega
theorem ind_eq {h h' : Hp} {t t' b b' : Nat} {dy dy' : Int32} (e : ind h t dy b = 1 ↔ ind h' t' dy' b' = 1) : ind h t dy b = ind h' t' dy' b' := by
  rcases ind_01 h t b dy with c | c
  · rcases ind_01 h' t' b' dy' with c' | c'
    · rw [c, c']
    · have := e.mpr c'; omega
  · rw [c, e.mp c]
theorem conc_zero {h : Hp} {t : Nat} {dy : Int32} (W : CW h) (ht : t < 2147483648) (z : ∀ b, b < xLS h 12 → F_X2_goesBy h (bj h b) (rls h (bj h b)) t dy = 0) : ∀ (m i fu : Nat), i + m = xLS h 12 → m < fu → L_X8_concerned_19 h (nI t) dy fu 0 i = .inl (some (.inl (.int 0))) := by
  have h30 := W.b30
  intro m
  induction m with
  | zero =>
    intro i fu hi hf
    obtain ⟨fu, rfl⟩ : ∃ g, fu = g + 1 := ⟨fu - 1, by omega⟩
    rw [L_X8_concerned_19_s]
    unfold B_X8_concerned_19
    rw [if_pos (by rw [← hi, Nat.add_zero]; exact Int32.le_refl _)]
  | succ m ih =>
    intro i fu hi hf
    obtain ⟨fu, rfl⟩ : ∃ g, fu = g + 1 := ⟨fu - 1, by omega⟩
    rw [L_X8_concerned_19_s]
    unfold B_X8_concerned_19
    rw [if_neg (fun z => by have := (nI_leI (by omega) (by omega)).mp z; omega)]
    by_cases c : F_X0_isOpen h i = 0
    · rw [if_pos c]; exact ih (i + 1) fu (by omega) (by omega)
    · rw [if_neg c, nI_clamp ht, if_pos (z i (by omega))]
      exact ih (i + 1) fu (by omega) (by omega)
theorem nI_01 (n : Nat) : nI n + 1 = nI (n + 1) := nI_1 n
theorem iv_trip {h : Hp} {D : Nat → Int32} {mo fi se da s mi n : Nat} (I : IV h D) (hn : xFI h 403 0 = nI n) (hn10 : n ≤ 10) (hs : s < n) (h1 : mo < 3) (h2 : fi < 3) (h3 : 1 ≤ se) (h4 : se ≤ 100) (h5 : 1 ≤ da) (h6 : da ≤ 127) (h7 : mi ≤ 1439) :
    (xLS h 11 < 20 ∧ V_trip h (nI mo) (nI fi) (nI se) (nI da) (nI s) (nI mi) = nI (xLS h 11) ∧ LQ (F_X8_trip h (nI mo) (nI fi) (nI se) (nI da) (nI s) (nI mi)).2 ∧
      (∀ D', D' 1 = nI (xLS h 11 + 1) → D' (3 + xLS h 11) = nI se → D' (23 + xLS h 11) = nI 1 → (∀ z, z ≠ 1 → z ≠ 3 + xLS h 11 → z ≠ 23 + xLS h 11 → D' z = D z) → IV (F_X8_trip h (nI mo) (nI fi) (nI se) (nI da) (nI s) (nI mi)).2 D') ∧
      V_seats (F_X8_trip h (nI mo) (nI fi) (nI se) (nI da) (nI s) (nI mi)).2 (nI (xLS h 11)) 99 = nI se ∧ V_concerned (F_X8_trip h (nI mo) (nI fi) (nI se) (nI da) (nI s) (nI mi)).2 (nI (xLS h 11)) 0 = 0) ∨
    (xLS h 11 = 20 ∧ V_trip h (nI mo) (nI fi) (nI se) (nI da) (nI s) (nI mi) = -2000000003 ∧ (F_X8_trip h (nI mo) (nI fi) (nI se) (nI da) (nI s) (nI mi)).2 = h) := by
  obtain ⟨I1, ⟨⟨m, ms, htr⟩, R2, R3, R4⟩, I3, I4, I5, I6, I7⟩ := id I
  have h20 := I.W.t20
  have h30 := I.W.b30
  have hmn : m = n := nI_inj (by have := ms.1; omega) (by omega) (ms.2.1.symm.trans hn)
  subst hmn
  have o1 : okF (nI fi) := ⟨nI_pos (by omega), (nI_ltI (b := 3) (by omega) (by decide)).mpr h2⟩
  have o2 : okR (nI mo) 0 2 := okR_mk (lo := 0) (hi := 2) (by omega) (by omega) (by decide)
  have o3 : okR (nI se) 1 100 := okR_mk (lo := 1) (hi := 100) h3 h4 (by decide)
  have o4 : okR (nI da) 1 127 := okR_mk (lo := 1) (hi := 127) h5 h6 (by decide)
  have o5 : okR (nI mi) 0 1439 := okR_mk (lo := 0) (hi := 1439) (by omega) h7 (by decide)
  by_cases c : xLS h 11 < 20
  · left
    have q := tripC I1.2.1 (mo := mo) (fi := fi) (se := se) (da := da) (s0 := s) (mi := mi)
    have eF : F_X8_trip h (nI mo) (nI fi) (nI se) (nI da) (nI s) (nI mi) = (.inl (some (.inl (.int (nI (xLS h 11))))), H_add (F_X7_begin (F_X7_setWeek (F_X7_init (sNO h 8) (xCN h 8) (nI (xLS h 11)) (nI mo) (nI fi) (nI se)) (xCN h 8) (nI da)) (xCN h 8) (nI s) (nI mi)) 11 (xCN h 8)) := by
      unfold F_X8_trip
      rw [if_pos o1, if_pos (okS_mk hn hn10 hs), if_pos o2, if_pos o3, if_pos o4, if_pos o5, if_pos (show nI (xLS h 11) < 20 from (nI_ltI (b := 20) (by omega) (by decide)).mpr c)]
    rw [eF]
    dsimp only
    generalize H_add (F_X7_begin (F_X7_setWeek (F_X7_init (sNO h 8) (xCN h 8) (nI (xLS h 11)) (nI mo) (nI fi) (nI se)) (xCN h 8) (nI da)) (xCN h 8) (nI s) (nI mi)) 11 (xCN h 8) = H at q eF ⊢
    have hcw := NewT.cw I.W I1.2.1 c q
    obtain ⟨⟨fr1, fr2⟩, ⟨f1, f800, f801, f802, f803, f810, f811⟩, ⟨a1, a28, a30, a31, a32⟩, ⟨l1, l2, l3⟩, -, cn⟩ := q
    have LH : LQ H := ⟨hcw.1, hcw.2, by rw [cn 9 (by decide)]; exact I1.2.2.1, by rw [cn 16 (by decide)]; exact I1.2.2.2⟩
    have eF1 : ∀ f i, (f / 100 ≠ 8 ∨ i ≠ xLS h 11) → f ≠ 1100 → xFI H f i = xFI h f i := f1
    have ebj : ∀ b, bj H b = bj h b := fun b => by unfold bj; rw [fr1 100 b (.inl (by decide))]
    have e5 : xFR H 504 = xFR h 504 := by funext i; exact fr1 504 i (.inl (by decide))
    have echs : ∀ (k : Nat) (o : Option Nat), chs (xFR H) k o = chs (xFR h) k o := by
      intro k
      induction k with
      | zero => intro o; rfl
      | succ k ih =>
        intro o
        cases o with
        | none => rfl
        | some r =>
          show r :: chs (xFR H) k (xFR H 504 r) = r :: chs (xFR h) k (xFR h 504 r)
          rw [e5, ih]
    have erl : ∀ j, rls H j = rls h j := fun j => by
      unfold rls
      rw [echs, fr1 301 j (.inl (by decide))]
    have etr : ∀ r, tr H r = tr h r := fun r => by unfold tr; rw [fr1 500 r (.inl (by decide))]
    have trlt : ∀ b r, b < xLS h 12 → r ∈ rls h (bj h b) → tr h r < xLS h 11 := fun b r hb hr => tr_lt I.W hb hr
    have e800 : ∀ t, t < xLS h 11 → xFI H 800 t = nI t := fun t ht => by rw [eF1 800 t (.inr (by omega)) (by decide)]; exact (htr t ht).1
    have gbN : ∀ b dy, b < xLS h 12 → F_X2_goesBy H (bj H b) (rls H (bj H b)) (xLS h 11) dy = 0 := fun b dy hb => by
      refine Classical.not_not.mp fun z => ?_
      obtain ⟨r, r1, r2, -⟩ := gb_iff.mp z
      rw [ebj, erl] at r1
      have := trlt b r hb r1
      rw [etr, e800 _ this, f800] at r2
      have := nI_inj (by omega) (by omega) r2
      omega
    have tn : okT H (nI (xLS h 11)) := (okT_iff hcw.1).mpr ⟨xLS h 11, by omega, rfl⟩
    have tcl : (nI (xLS h 11)).toNatClampNeg = xLS h 11 := nI_clamp (by omega)
    have clN : ∀ dy m i, i + m ≤ xLS h 12 → cl H (xLS h 11) dy m i = 0 := by
      intro dy m
      induction m with
      | zero => intro i _; rfl
      | succ m ih =>
        intro i hi
        show ind H (xLS h 11) dy i + cl H (xLS h 11) dy m (i + 1) = 0
        rw [ih (i + 1) (by omega)]
        unfold ind
        rw [gbN i dy (by omega)]
        split <;> rfl
    refine ⟨c, by unfold V_trip; rw [eF]; rfl, LH, fun D' d1 d3 d23 dz => ?_, ?_, ?_⟩
    · refine ⟨LH, ⟨⟨m, ⟨ms.1, by rw [eF1 403 0 (.inl (by decide)) (by decide)]; exact hn, fun x hx => ?_⟩, fun t ht => ?_⟩, fun x y hx hy => ?_, fun f hf => ?_, fun b hb => ?_⟩, fun t ht d hd => ?_, ?_, ?_, ?_, fun t ht => ?_⟩
      · obtain ⟨w, w1, w2⟩ := ms.2.2 x hx
        exact ⟨w, w1, by rw [a1 22 0 x (.inl (by decide))]; exact w2⟩
      · by_cases ct : t = xLS h 11
        · subst ct
          refine ⟨f800, ⟨fi, h2, f802⟩, ⟨se, h3, h4, f803⟩, ⟨1, fun _ => s, fun _ => mi, fun _ => 0, by omega, by omega, f810, fun p hp => ?_⟩, fun d hd => ?_, ⟨0, by omega, f811⟩⟩
          · obtain rfl : p = 0 := by omega
            exact ⟨a28, hs, a30, (show mi ≤ 1440 + 360 * 0 by omega), fun z => absurd rfl z⟩
          · unfold TDay
            rw [a32 d]
            decide
        · have hn : t ≠ xLS h 11 := ct
          have row : ∀ s', xAI H s' t = xAI h s' t := fun s' => by funext j; exact a1 s' t j (.inr hn)
          exact TR.cg (eF1 _ t (.inr hn) (by decide)) (eF1 _ t (.inr hn) (by decide)) (eF1 _ t (.inr hn) (by decide)) (eF1 _ t (.inr hn) (by decide)) (eF1 _ t (.inr hn) (by decide)) (row _) (row _) (row _) (row _) (htr t (by omega))
      · rw [a1 23 0 _ (.inl (by decide))]; exact R2 x y hx hy
      · obtain ⟨a, b, d, b1, b2, b3, b4, b5, b6⟩ := R3 f hf
        exact ⟨a, b, d, b1, b2, b3, by rw [a1 24 0 f (.inl (by decide))]; exact b4, by rw [a1 25 0 f (.inl (by decide))]; exact b5, by rw [a1 26 0 f (.inl (by decide))]; exact b6⟩
      · rw [l2] at hb
        rw [eF1 101 b (.inl (by decide)) (by decide)]; exact R4 b hb
      · by_cases ct : t = xLS h 11
        · subst ct
          rw [free_spec (by rw [l2]; exact h30) f803 h4, l2, clN _ _ _ (by omega)]
          omega
        · have ht' : t < xLS h 11 := by omega
          obtain ⟨k, k1, k2, k3⟩ := (htr t ht').2.2.1
          have i3 := I3 t ht' d hd
          rw [free_spec h30 k3 k2] at i3
          rw [free_spec (by rw [l2]; exact h30) (by rw [eF1 803 t (.inr ct) (by decide)]; exact k3) k2, l2, cl_cg (h := h) _ _ (fun b _ hb => ?_)]
          · exact i3
          · apply ind_eq
            rw [ind_iff, ind_iff, ebj, erl, eF1 103 b (.inl (by decide)) (by decide), e800 t ht', (htr t ht').1]
            constructor
            · rintro ⟨g1, r, r1, r2, r3⟩
              have := trlt b r (by omega) r1
              rw [etr, e800 _ this] at r2
              rw [eF1 501 r (.inl (by decide)) (by decide)] at r3
              exact ⟨g1, r, r1, by rw [(htr _ this).1]; exact r2, r3⟩
            · rintro ⟨g1, r, r1, r2, r3⟩
              have := trlt b r (by omega) r1
              rw [(htr _ this).1] at r2
              exact ⟨g1, r, r1, by rw [etr, e800 _ this]; exact r2, by rw [eF1 501 r (.inl (by decide)) (by decide)]; exact r3⟩
      · rw [dz 0 (by omega) (by omega) (by omega), eF1 403 0 (.inl (by decide)) (by decide)]; exact I4
      · rw [d1, l1]
      · rw [dz 2 (by omega) (by omega) (by omega), l2]; exact I6
      · by_cases ct : t = xLS h 11
        · subst ct
          exact ⟨d3.trans f803.symm, d23.trans f810.symm⟩
        · rw [dz (3 + t) (by omega) (by omega) (by omega), dz (23 + t) (by omega) (by omega) (by omega), eF1 803 t (.inr ct) (by decide), eF1 810 t (.inr ct) (by decide)]
          exact I7 t (by omega)
    · have e := free_spec (dy := 99) (by rw [l2]; exact h30) f803 h4
      rw [l2, clN _ _ _ (by omega)] at e
      unfold V_seats F_X8_seats
      rw [if_pos tn, if_pos (show okR (99 : Int32) 0 99 by decide), tcl]
      show F_X8_freeSeats H (xLS h 11) 99 = nI se
      apply Int32.toInt_inj.mp
      rw [e, nI_toInt (by omega)]
      omega
    · unfold V_concerned F_X8_concerned
      rw [if_pos tn, if_pos (show okR (0 : Int32) 0 99 by decide), conc_zero hcw.1 (by omega) (fun b hb => gbN b 0 (by rw [l2] at hb; exact hb)) (xLS H 12) 0 _ (by omega) (by rw [l2]; omega)]
      rfl
  · right
    have c9 : xLS h 11 = 20 := by omega
    have eF : F_X8_trip h (nI mo) (nI fi) (nI se) (nI da) (nI s) (nI mi) = (.inr cy_e2, h) := by
      unfold F_X8_trip
      rw [if_pos o1, if_pos (okS_mk hn hn10 hs), if_pos o2, if_pos o3, if_pos o4, if_pos o5, if_neg (fun z => by have := (nI_ltI (b := 20) (by omega) (by decide)).mp z; omega)]
    exact ⟨c9, by unfold V_trip; rw [eF]; exact (by decide +kernel : rsI (.inr cy_e2) = -2000000003), by rw [eF]⟩
