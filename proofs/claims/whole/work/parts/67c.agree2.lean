/-! ===== own: class and reference agree: delay, runs, prices, note ===== -/
theorem ag_delayI {S : Nat → Int32} {n : Nat} {h : Hp} (I : Inv S n h) {k d : Nat} (hk : k < xLS h 11) (hd : d < 100) {mi : Int32} (hm : -1 ≤ mi.toInt ∧ mi.toInt ≤ 600) {v : Int64} (D : DM (sAI (sFI (sAL (sAI h 32 k d mi) v) 1043 0 0) 51 0 (100 * k + d) mi)) :
    Inv S n (sAI (sFI (sAL (sAI h 32 k d mi) v) 1043 0 0) 51 0 (100 * k + d) mi) := by
  obtain ⟨⟨n0, hs, htr⟩, hwk, h3, htn, hpr, hno, hb, hbr, hc⟩ := I.R
  refine ⟨I.W, I.C, I.MW, D, I.S, ⟨n0, hs, fun t ht => ?_⟩, hwk, h3, fun t h1 h2 => ?_, hpr, hno, hb, hbr, hc⟩
  · obtain ⟨a, b, c, e, f, g, x⟩ := htr t ht
    refine ⟨a, b, c, e, f, fun d' hd' => ?_, x⟩
    obtain ⟨g1, g2, g3, g4⟩ := g d' hd'
    refine ⟨g1, ?_⟩
    show (if 32 = 32 ∧ t = k ∧ d' = d then mi else xAI h 32 t d') = (if 51 = 51 ∧ 0 = 0 ∧ 100 * t + d' = 100 * k + d then mi else xAI h 51 0 (100 * t + d')) ∧ -1 ≤ (if 32 = 32 ∧ t = k ∧ d' = d then mi else xAI h 32 t d').toInt ∧ (if 32 = 32 ∧ t = k ∧ d' = d then mi else xAI h 32 t d').toInt ≤ 600
    by_cases q : t = k ∧ d' = d
    · obtain ⟨rfl, rfl⟩ := q
      rw [if_pos ⟨rfl, rfl, rfl⟩, if_pos ⟨rfl, rfl, rfl⟩]
      exact ⟨rfl, hm⟩
    · rw [if_neg (fun z => q z.2), if_neg (fun z => q (by have := z.2.2; omega))]
      exact ⟨g2, g3, g4⟩
  · obtain ⟨a, b⟩ := htn t h1 h2
    refine ⟨fun d' hd' => ⟨(a d' hd').1, ?_⟩, b⟩
    show (if 51 = 51 ∧ 0 = 0 ∧ 100 * t + d' = 100 * k + d then mi else xAI h 51 0 (100 * t + d')) = 0
    rw [if_neg (fun z => by
      have := z.2.2
      have : xLS h 11 ≤ t := h1
      omega)]
    exact (a d' hd').2
theorem ag_delay {S : Nat → Int32} {n : Nat} {h : Hp} (I : Inv S n h) (t dy mi : Int32) : AG S n [cy_e3, cy_e1] (F_X8_delay h t dy mi).1 (A1_delay h t dy mi) (F_X9_delay (A1_delay h t dy mi) t dy mi).2 (xAL (F_X9_delay (A1_delay h t dy mi) t dy mi).2 0 = (F_X9_delay (A1_delay h t dy mi) t dy mi).1.toInt64) := by
  obtain ⟨⟨n0, hs, htr⟩, hwk, h3, hrest⟩ := I.R
  have h20 := I.W.t20
  have E : ∀ {E : String}, F_X8_delay h t dy mi = (.inr E, h) → A1_delay h t dy mi = h := fun e => by unfold A1_delay; rw [e]; rfl
  by_cases pt : okT h t
  · obtain ⟨k, hk, rfl⟩ := (okT_iff I.W).mp pt
    have pm : okR (nI k) 0 (xFI h 1003 0 - 1) := by rw [h3]; exact (okM_iff (by omega)).mpr ⟨k, hk, rfl⟩
    by_cases pd : okR dy 0 99
    · obtain ⟨d, rfl, -, hd⟩ := okR_of (a := 0) (n := 99) (by decide) (by decide) pd
      by_cases pi : okR mi (-1) 600
      · have hm : -1 ≤ mi.toInt ∧ mi.toInt ≤ 600 := by
          obtain ⟨p1, p2⟩ := pi
          rw [Int32.lt_iff_toInt_lt] at p1
          rw [Int32.le_iff_toInt_le] at p2
          have e1 : (-1 : Int32).toInt = -1 := by decide
          have e2 : (600 : Int32).toInt = 600 := by decide
          omega
        have e8 : F_X8_delay h (nI k) (nI d) mi = (.inl (some (.inl (.int (xAI h 32 k d)))), sAI h 32 k d mi) := by
          unfold F_X8_delay
          rw [if_pos pt, if_pos pd, if_pos pi, nI_clamp (by omega), at_in h (n := 100) (by decide) rfl (by omega) (by decide), put_in h (n := 100) (by decide) rfl (by omega) (by decide)]
        have eA : A1_delay h (nI k) (nI d) mi = sAL (sAI h 32 k d mi) (xAI h 32 k d).toInt64 := by unfold A1_delay; rw [e8]; rfl
        have e9 : F_X9_delay (sAL (sAI h 32 k d mi) (xAI h 32 k d).toInt64) (nI k) (nI d) mi = (xAI h 51 0 (100 * k + d), sAI (sFI (sAL (sAI h 32 k d mi) (xAI h 32 k d).toInt64) 1043 0 0) 51 0 (100 * k + d) mi) := by
          unfold F_X9_delay
          rw [if_pos (show okR (nI k) 0 (xFI (sAL (sAI h 32 k d mi) (xAI h 32 k d).toInt64) 1003 0 - 1) from pm), if_pos pd, if_pos pi, xi100, nI_clamp (by omega)]
          rfl
        rw [eA, e8, e9]
        obtain ⟨-, -, -, -, -, g, -⟩ := htr k hk
        obtain ⟨-, g2, -⟩ := g d (by omega)
        refine ⟨⟨I.MW, I.D.put (by decide), I.S⟩, fun m => ag_delayI I hk (by omega) hm m.2, rfl, fun _ => ?_⟩
        show (xAI h 32 k d).toInt64 = (xAI h 51 0 (100 * k + d)).toInt64
        rw [g2]
      · have e8 : F_X8_delay h (nI k) (nI d) mi = (.inr cy_e1, h) := by unfold F_X8_delay; rw [if_pos pt, if_pos pd, if_neg pi]
        have e9 : F_X9_delay h (nI k) (nI d) mi = (0, sFI (sFI h 1043 0 0) 1043 0 2) := by unfold F_X9_delay; rw [if_pos pm, if_pos pd, if_neg pi]
        rw [E e8, e8, e9]
        exact ag_err I (k := 2) fqe2 rfl (by decide +kernel) (by decide)
    · have e8 : F_X8_delay h (nI k) dy mi = (.inr cy_e1, h) := by unfold F_X8_delay; rw [if_pos pt, if_neg pd]
      have e9 : F_X9_delay h (nI k) dy mi = (0, sFI (sFI h 1043 0 0) 1043 0 2) := by unfold F_X9_delay; rw [if_pos pm, if_neg pd]
      rw [E e8, e8, e9]
      exact ag_err I (k := 2) fqe2 rfl (by decide +kernel) (by decide)
  · have e8 : F_X8_delay h t dy mi = (.inr cy_e3, h) := by unfold F_X8_delay; rw [if_neg pt]
    have e9 : F_X9_delay h t dy mi = (0, sFI h 1043 0 1) := by
      unfold F_X9_delay
      rw [if_neg (fun q => pt ((okT_iff I.W).mpr ((okM_iff (n0 := xLS h 11) (by omega)).mp (by rw [← h3]; exact q))))]
    rw [E e8, e8, e9]
    exact ag_err I (k := 1) fqe1 rfl (by decide +kernel) (by decide)
/-- the reference's isRun, by places -/
theorem isRun_eq (h : Hp) {t d : Nat} (ht : t < 20) (hd : d < 100) : F_X9_isRun h (nI t) (nI d) = (if xAI h 50 0 (100 * t + d) = 0 then (if ((xAI h 45 0 t >>> ((nI d - nI d / 7 * 7) &&& 31)) &&& 1) = 1 then 1 else 0) else (if xAI h 50 0 (100 * t + d) = 1 then 1 else 0)) := by
  unfold F_X9_isRun
  rw [xi100, nI_clamp (by omega), nI_clamp (by omega)]
theorem isRun_01 (h : Hp) (t d : Int32) : F_X9_isRun h t d = 0 ∨ F_X9_isRun h t d = 1 := by
  unfold F_X9_isRun
  repeat' split
  all_goals first | exact .inl rfl | exact .inr rfl
theorem ag_runsI {S : Nat → Int32} {n : Nat} {h : Hp} (I : Inv S n h) {k d : Nat} (hk : k < xLS h 11) (hd : d < 100) {v w : Int32} (hv : (v = 0 ∧ w = 2) ∨ (v = 1 ∧ w = 1)) {o : Int64} (D : DM (sAI (sFI (sAL (sAI h 31 k d v) o) 1043 0 0) 50 0 (100 * k + d) w)) :
    Inv S n (sAI (sFI (sAL (sAI h 31 k d v) o) 1043 0 0) 50 0 (100 * k + d) w) := by
  obtain ⟨⟨n0, hs, htr⟩, hwk, h3, htn, hpr, hno, hb, hbr, hc⟩ := I.R
  have h20 := I.W.t20
  refine ⟨I.W, I.C, I.MW, D, I.S, ⟨n0, hs, fun t ht => ?_⟩, hwk, h3, fun t h1 h2 => ?_, hpr, hno, hb, hbr, hc⟩
  · have ht' : t < xLS h 11 := ht
    obtain ⟨a, b, c, e, f, g, x⟩ := htr t ht
    refine ⟨a, b, c, e, f, fun d' hd' => ?_, x⟩
    obtain ⟨g1, g2⟩ := g d' hd'
    refine ⟨?_, g2⟩
    rw [isRun_eq h (by omega) hd'] at g1
    rw [isRun_eq _ (by omega) hd']
    show (if 31 = 31 ∧ t = k ∧ d' = d then v else xAI h 31 t d') = (if (if 50 = 50 ∧ 0 = 0 ∧ 100 * t + d' = 100 * k + d then w else xAI h 50 0 (100 * t + d')) = 0 then (if ((xAI h 45 0 t >>> ((nI d' - nI d' / 7 * 7) &&& 31)) &&& 1) = 1 then 1 else 0) else (if (if 50 = 50 ∧ 0 = 0 ∧ 100 * t + d' = 100 * k + d then w else xAI h 50 0 (100 * t + d')) = 1 then 1 else 0))
    by_cases q : t = k ∧ d' = d
    · obtain ⟨rfl, rfl⟩ := q
      rw [if_pos ⟨rfl, rfl, rfl⟩, if_pos (c := 50 = 50 ∧ 0 = 0 ∧ 100 * t + d' = 100 * t + d') ⟨rfl, rfl, rfl⟩]
      rcases hv with ⟨rfl, rfl⟩ | ⟨rfl, rfl⟩ <;> rfl
    · rw [if_neg (fun z => q z.2), if_neg (c := 50 = 50 ∧ 0 = 0 ∧ 100 * t + d' = 100 * k + d) (fun z => q (by have := z.2.2; omega))]
      exact g1
  · obtain ⟨a, b⟩ := htn t h1 h2
    refine ⟨fun d' hd' => ⟨?_, (a d' hd').2⟩, b⟩
    show (if 50 = 50 ∧ 0 = 0 ∧ 100 * t + d' = 100 * k + d then w else xAI h 50 0 (100 * t + d')) = 0
    rw [if_neg (fun z => by
      have := z.2.2
      have : xLS h 11 ≤ t := h1
      omega)]
    exact (a d' hd').1
theorem ag_runs {S : Nat → Int32} {n : Nat} {h : Hp} (I : Inv S n h) (t dy v : Int32) (hv : v = 0 ∨ v = 1) : AG S n [cy_e3, cy_e1] (F_X8_runs h t dy v).1 (A1_runs h t dy v) (F_X9_runs (A1_runs h t dy v) t dy v).2 (xAL (F_X9_runs (A1_runs h t dy v) t dy v).2 0 = if (F_X9_runs (A1_runs h t dy v) t dy v).1 = 0 then 0 else 1) := by
  obtain ⟨⟨n0, hs, htr⟩, hwk, h3, hrest⟩ := I.R
  have h20 := I.W.t20
  have E : ∀ {E : String}, F_X8_runs h t dy v = (.inr E, h) → A1_runs h t dy v = h := fun e => by unfold A1_runs; rw [e]; rfl
  by_cases pt : okT h t
  · obtain ⟨k, hk, rfl⟩ := (okT_iff I.W).mp pt
    have pm : okR (nI k) 0 (xFI h 1003 0 - 1) := by rw [h3]; exact (okM_iff (by omega)).mpr ⟨k, hk, rfl⟩
    by_cases pd : okR dy 0 99
    · obtain ⟨d, rfl, -, hd⟩ := okR_of (a := 0) (n := 99) (by decide) (by decide) pd
      obtain ⟨-, -, -, -, -, g, -⟩ := htr k hk
      obtain ⟨g1, -⟩ := g d (by omega)
      have r01 := isRun_01 h (nI k) (nI d)
      have e8 : F_X8_runs h (nI k) (nI d) v = (.inl (some (.inl (.int (F_X9_isRun h (nI k) (nI d))))), sAI h 31 k d v) := by
        unfold F_X8_runs F_X7_isThere F_X7_setThere
        rw [if_pos pt, if_pos pd, nI_clamp (by omega), if_neg (nI_pos (by omega)), if_neg (nI_pos (by omega)), if_neg (c := (100 : Int32) ≤ nI d) (fun q => by have := (nI_leI (a := 100) (b := d) (by decide) (by omega)).mp q; omega), if_neg (c := (100 : Int32) ≤ nI d) (fun q => by have := (nI_leI (a := 100) (b := d) (by decide) (by omega)).mp q; omega), nI_clamp (by omega), g1]
        rcases r01 with r | r <;> rw [r] <;> rfl
      have eA : A1_runs h (nI k) (nI d) v = sAL (sAI h 31 k d v) (if F_X9_isRun h (nI k) (nI d) = 0 then 0 else 1) := by unfold A1_runs; rw [e8]; rfl
      have e9 : ∃ w, ((v = 0 ∧ w = 2) ∨ (v = 1 ∧ w = 1)) ∧ F_X9_runs (sAL (sAI h 31 k d v) (if F_X9_isRun h (nI k) (nI d) = 0 then 0 else 1)) (nI k) (nI d) v = (F_X9_isRun h (nI k) (nI d), sAI (sFI (sAL (sAI h 31 k d v) (if F_X9_isRun h (nI k) (nI d) = 0 then 0 else 1)) 1043 0 0) 50 0 (100 * k + d) w) := by
        unfold F_X9_runs
        rw [if_pos (show okR (nI k) 0 (xFI (sAL (sAI h 31 k d v) (if F_X9_isRun h (nI k) (nI d) = 0 then 0 else 1)) 1003 0 - 1) from pm), if_pos pd, xi100, nI_clamp (by omega)]
        rcases hv with rfl | rfl
        · exact ⟨2, .inl ⟨rfl, rfl⟩, rfl⟩
        · exact ⟨1, .inr ⟨rfl, rfl⟩, rfl⟩
      obtain ⟨w, hw, e9⟩ := e9
      rw [eA, e8, e9]
      exact ⟨⟨I.MW, I.D.put (by decide), I.S⟩, fun m => ag_runsI I hk (by omega) hw m.2, rfl, fun _ => rfl⟩
    · have e8 : F_X8_runs h (nI k) dy v = (.inr cy_e1, h) := by unfold F_X8_runs; rw [if_pos pt, if_neg pd]
      have e9 : F_X9_runs h (nI k) dy v = (0, sFI (sFI h 1043 0 0) 1043 0 2) := by unfold F_X9_runs; rw [if_pos pm, if_neg pd]
      rw [E e8, e8, e9]
      exact ag_err I (k := 2) fqe2 rfl (by decide +kernel) (by decide)
  · have e8 : F_X8_runs h t dy v = (.inr cy_e3, h) := by unfold F_X8_runs; rw [if_neg pt]
    have e9 : F_X9_runs h t dy v = (0, sFI h 1043 0 1) := by
      unfold F_X9_runs
      rw [if_neg (fun q => pt ((okT_iff I.W).mpr ((okM_iff (n0 := xLS h 11) (by omega)).mp (by rw [← h3]; exact q))))]
    rw [E e8, e8, e9]
    exact ag_err I (k := 1) fqe1 rfl (by decide +kernel) (by decide)
theorem ag_prices {S : Nat → Int32} {n : Nat} {h : Hp} (I : Inv S n h) (f ba ce su : Int32) : AG S n [cy_e3, cy_e1] (F_X8_prices h f ba ce su).1 (A1_prices h f ba ce su) (F_X9_prices (A1_prices h f ba ce su) f ba ce su) True := by
  have E : ∀ {E : String}, F_X8_prices h f ba ce su = (.inr E, h) → A1_prices h f ba ce su = h := fun e => by unfold A1_prices loV; rw [e]
  have bad : okR f 0 2 → F_X8_prices h f ba ce su = (.inr cy_e1, h) → F_X9_prices h f ba ce su = sFI (sFI h 1043 0 0) 1043 0 2 → AG S n [cy_e3, cy_e1] (F_X8_prices h f ba ce su).1 (A1_prices h f ba ce su) (F_X9_prices (A1_prices h f ba ce su) f ba ce su) True := by
    intro _ e8 e9
    rw [E e8, e8, e9]
    exact ag_err I (k := 2) fqe2 rfl (by decide +kernel) (by decide)
  by_cases pf : okF f
  · have pm : okR f 0 2 := by
      obtain ⟨j, hj, rfl⟩ := nI_of pf.1
      have := (nI_ltI (b := 3) hj (by decide)).mp pf.2
      exact ⟨nI_pos hj, (nI_leI (b := 2) hj (by decide)).mpr (by omega)⟩
    by_cases p1 : okR ba 0 10000
    · by_cases p2 : okR ce 0 1000
      · by_cases p3 : okR su 0 10000
        · obtain ⟨i, rfl, -, hi⟩ := okR_of (a := 0) (n := 2) (by decide) (by decide) pm
          obtain ⟨a, rfl, -, ha⟩ := okR_of (a := 0) (n := 10000) (by decide) (by decide) p1
          obtain ⟨b, rfl, -, hb'⟩ := okR_of (a := 0) (n := 1000) (by decide) (by decide) p2
          obtain ⟨c, rfl, -, hc'⟩ := okR_of (a := 0) (n := 10000) (by decide) (by decide) p3
          have e8 : F_X8_prices h (nI i) (nI a) (nI b) (nI c) = (.inl none, sAI (sAI (sAI h 24 0 i (nI a)) 25 0 i (nI b)) 26 0 i (nI c)) := by
            unfold F_X8_prices F_X1_setPrices
            rw [if_pos pf, if_pos p1, if_pos p2, if_pos p3, put_in h (n := 3) (by decide) rfl (by omega) (by decide), put_in _ (n := 3) (by decide) rfl (by omega) (by decide), put_in _ (n := 3) (by decide) rfl (by omega) (by decide)]
          have eA : A1_prices h (nI i) (nI a) (nI b) (nI c) = sAI (sAI (sAI h 24 0 i (nI a)) 25 0 i (nI b)) 26 0 i (nI c) := by unfold A1_prices loV; rw [e8]
          have e9 : F_X9_prices (sAI (sAI (sAI h 24 0 i (nI a)) 25 0 i (nI b)) 26 0 i (nI c)) (nI i) (nI a) (nI b) (nI c) = sAI (sAI (sAI (sFI (sAI (sAI (sAI h 24 0 i (nI a)) 25 0 i (nI b)) 26 0 i (nI c)) 1043 0 0) 54 0 i (nI a)) 55 0 i (nI b)) 56 0 i (nI c) := by
            unfold F_X9_prices
            rw [if_pos pm, if_pos p1, if_pos p2, if_pos p3, nI_clamp (by omega)]
          obtain ⟨h0, hwk, h3, htn, hpr, hno, hb, hbr, hc⟩ := I.R
          rw [eA, e8, e9]
          refine ⟨⟨I.MW, ((I.D.put (by decide)).put (by decide)).put (by decide), I.S⟩, fun m => ⟨I.W, I.C, I.MW, m.2, I.S, h0, hwk, h3, htn, fun f hf => ?_, hno, hb, hbr, hc⟩, rfl, fun _ => trivial⟩
          by_cases q : f = i
          · subst q
            exact ⟨a, b, c, ha, hb', hc', if_pos ⟨rfl, rfl, rfl⟩, if_pos ⟨rfl, rfl, rfl⟩, if_pos ⟨rfl, rfl, rfl⟩, if_pos ⟨rfl, rfl, rfl⟩, if_pos ⟨rfl, rfl, rfl⟩, if_pos ⟨rfl, rfl, rfl⟩⟩
          · obtain ⟨a', b', c', x1, x2, x3, y1, y2, y3, y4, y5, y6⟩ := hpr f hf
            exact ⟨a', b', c', x1, x2, x3, (if_neg (fun z => q z.2.2)).trans y1, (if_neg (fun z => q z.2.2)).trans y2, (if_neg (fun z => q z.2.2)).trans y3, (if_neg (fun z => q z.2.2)).trans y4, (if_neg (fun z => q z.2.2)).trans y5, (if_neg (fun z => q z.2.2)).trans y6⟩
        · exact bad pm (by unfold F_X8_prices; rw [if_pos pf, if_pos p1, if_pos p2, if_neg p3]) (by unfold F_X9_prices; rw [if_pos pm, if_pos p1, if_pos p2, if_neg p3])
      · exact bad pm (by unfold F_X8_prices; rw [if_pos pf, if_pos p1, if_neg p2]) (by unfold F_X9_prices; rw [if_pos pm, if_pos p1, if_neg p2])
    · exact bad pm (by unfold F_X8_prices; rw [if_pos pf, if_neg p1]) (by unfold F_X9_prices; rw [if_pos pm, if_neg p1])
  · have e8 : F_X8_prices h f ba ce su = (.inr cy_e3, h) := by unfold F_X8_prices; rw [if_neg pf]
    have e9 : F_X9_prices h f ba ce su = sFI h 1043 0 1 := by
      unfold F_X9_prices
      rw [if_neg (fun q => pf (by
        obtain ⟨j, rfl, -, hj⟩ := okR_of (a := 0) (n := 2) (by decide) (by decide) q
        exact ⟨nI_pos (by omega), (nI_ltI (b := 3) (by omega) (by decide)).mpr (by omega)⟩))]
    rw [E e8, e8, e9]
    exact ag_err I (k := 1) fqe1 rfl (by decide +kernel) (by decide)
