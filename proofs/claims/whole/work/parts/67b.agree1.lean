/-! ===== own: class and reference agree: stop, footway, delay, runs, prices, note ===== -/
theorem nI_eq10 {n : Nat} (h : n < 10) : ¬ nI n = 10 := fun q => by
  have := nI_inj (a := n) (b := 10) (by omega) (by decide) q
  omega
theorem TR.mono {h : Hp} {n m t : Nat} (H : TR h n t) (hnm : n ≤ m) : TR h m t := by
  obtain ⟨a, b, c, d, ⟨len, st, lv, ar, r1, r2, r3, r4, r5⟩, f, g⟩ := H
  refine ⟨a, b, c, d, ⟨len, st, lv, ar, r1, r2, r3, r4, fun p hp => ?_⟩, f, g⟩
  obtain ⟨s1, s2, s3, s4⟩ := r5 p hp
  exact ⟨s1, s2, Nat.lt_of_lt_of_le s3 hnm, s4⟩
theorem m_stop {H : Hp} {n0 : Nat} {x : Int32} (h1 : xFI H 1000 0 = nI n0) (p : okR x 0 60) (hn : n0 < 10) : F_X9_stop H x = (nI n0, sFI (sAI (sFI H 1043 0 0) 40 0 n0 x) 1000 0 (nI (n0 + 1))) := by
  have a1 : xFI (sFI H 1043 0 0) 1000 0 = nI n0 := h1
  have a2 : xFI (sAI (sFI H 1043 0 0) 40 0 n0 x) 1000 0 = nI n0 := h1
  unfold F_X9_stop
  rw [if_pos p, a1, if_neg (nI_eq10 hn), nI_clamp (by omega), a2, show nI n0 + 1 = nI (n0 + 1) from nI_add n0 1]
  rw [fi_fi, if_pos ⟨rfl, rfl⟩, nI_pred]
theorem ag_stop {S : Nat → Int32} {n : Nat} {h : Hp} (I : Inv S n h) (x : Int32) : AG S n [cy_e1, cy_e2] (F_X8_stop h x).1 (A1_stop h x) (F_X9_stop (A1_stop h x) x).2 (xAL (F_X9_stop (A1_stop h x) x).2 0 = (F_X9_stop (A1_stop h x) x).1.toInt64) := by
  obtain ⟨⟨n0, ⟨hn, h4, h1, hst⟩, htr⟩, hwk, h3, htn, hpr, hno, hb, hbr, hc⟩ := I.R
  by_cases p : okR x 0 60
  · by_cases c : n0 = 10
    · subst c
      have e8 : F_X8_stop h x = (.inr cy_e2, h) := by
        unfold F_X8_stop
        rw [if_pos p, h4, if_neg (by decide)]
      have eA : A1_stop h x = h := by unfold A1_stop; rw [e8]; rfl
      have e9 : F_X9_stop h x = (0, sFI (sFI h 1043 0 0) 1043 0 2) := by
        unfold F_X9_stop
        rw [if_pos p, if_pos (show xFI (sFI h 1043 0 0) 1000 0 = 10 from h1)]
      rw [eA, e8, e9]
      exact ag_err I (k := 2) fqe2 rfl (by decide +kernel) (by decide)
    · have hn' : n0 < 10 := by omega
      obtain ⟨k, rfl, -, hk⟩ := okR_of (a := 0) (n := 60) (by decide) (by decide) p
      have e8 : F_X8_stop h (nI k) = (.inl (some (.inl (.int (nI n0)))), sFI (sAI h 22 0 n0 (nI k)) 403 0 (nI (n0 + 1))) := by
        unfold F_X8_stop F_X3_addStop
        rw [if_pos p, h4, if_pos (show nI n0 < 10 from (nI_ltI (b := 10) (by omega) (by decide)).mpr hn'), put_in h (by decide) rfl hn' (by decide), fi_ai, h4, show nI n0 + 1 = nI (n0 + 1) from nI_add n0 1]
      have eA : A1_stop h (nI k) = sAL (sFI (sAI h 22 0 n0 (nI k)) 403 0 (nI (n0 + 1))) (nI n0).toInt64 := by unfold A1_stop; rw [e8]; rfl
      rw [eA, e8, m_stop (n0 := n0) (show xFI (sAL (sFI (sAI h 22 0 n0 (nI k)) 403 0 (nI (n0 + 1))) (nI n0).toInt64) 1000 0 = nI n0 from h1) p hn']
      refine ⟨⟨I.MW, (I.D.put (by decide)).fput (by decide), I.S⟩, fun m => ⟨I.W, I.C, I.MW, m.2, I.S, ⟨n0 + 1, ⟨by omega, rfl, rfl, fun s hs => ?_⟩, fun t ht => (htr t ht).mono (Nat.le_succ _)⟩, hwk, h3, htn, hpr, hno, hb, hbr, hc⟩, rfl, fun _ => rfl⟩
      by_cases q : s = n0
      · subst q
        exact ⟨k, hk, if_pos ⟨rfl, rfl, rfl⟩, if_pos ⟨rfl, rfl, rfl⟩⟩
      · obtain ⟨w, w1, w2, w3⟩ := hst s (by omega)
        exact ⟨w, w1, (if_neg (fun z => q z.2.2)).trans w2, (if_neg (fun z => q z.2.2)).trans w3⟩
  · have e8 : F_X8_stop h x = (.inr cy_e1, h) := by
      unfold F_X8_stop
      rw [if_neg p]
    have eA : A1_stop h x = h := by unfold A1_stop; rw [e8]; rfl
    have e9 : F_X9_stop h x = (0, sFI h 1043 0 1) := by
      unfold F_X9_stop
      rw [if_neg p]
    rw [eA, e8, e9]
    exact ag_err I (k := 1) fqe1 rfl (by decide +kernel) (by decide)
/-- a number below n, either way -/
theorem okS_iff {h : Hp} {n0 : Nat} (h4 : xFI h 403 0 = nI n0) (hn : n0 ≤ 10) {a : Int32} : okS h a ↔ ∃ k, k < n0 ∧ a = nI k := by
  constructor
  · intro p
    obtain ⟨j, hj, rfl⟩ := nI_of p.1
    have := p.2
    rw [h4] at this
    exact ⟨j, (nI_ltI hj (by omega)).mp this, rfl⟩
  · rintro ⟨k, hk, rfl⟩
    exact ⟨nI_pos (by omega), by rw [h4]; exact (nI_ltI (by omega) (by omega)).mpr hk⟩
theorem okM_iff {n0 : Nat} (hn : n0 ≤ 30) {a : Int32} : okR a 0 (nI n0 - 1) ↔ ∃ k, k < n0 ∧ a = nI k := okR_lt (by omega) (Int32.toInt_lt a)
theorem okT_iff {h : Hp} (W : CW h) {a : Int32} : okT h a ↔ ∃ k, k < xLS h 11 ∧ a = nI k := by
  have := W.t20
  constructor
  · intro p
    obtain ⟨j, hj, rfl⟩ := nI_of p.1
    exact ⟨j, (nI_ltI hj (by omega)).mp p.2, rfl⟩
  · rintro ⟨k, hk, rfl⟩
    exact ⟨nI_pos (by omega), (nI_ltI (by omega) (by omega)).mpr hk⟩
theorem okB_iff {h : Hp} (W : CW h) {a : Int32} : okB h a ↔ ∃ k, k < xLS h 12 ∧ a = nI k := by
  have := W.b30
  constructor
  · intro p
    obtain ⟨j, hj, rfl⟩ := nI_of p.1
    exact ⟨j, (nI_ltI hj (by omega)).mp p.2, rfl⟩
  · rintro ⟨k, hk, rfl⟩
    exact ⟨nI_pos (by omega), (nI_ltI (by omega) (by omega)).mpr hk⟩
theorem ix10 (i j : Nat) : nI i * 10 + nI j = nI (10 * i + j) := by
  rw [show (10 : Int32) = nI 10 from rfl, nI_mul, nI_add, Nat.mul_comm]
theorem xi10 (i j : Nat) : 10 * nI i + nI j = nI (10 * i + j) := by
  rw [show (10 : Int32) = nI 10 from rfl, nI_mul, nI_add]
theorem xi100 (i j : Nat) : 100 * nI i + nI j = nI (100 * i + j) := by
  rw [show (100 : Int32) = nI 100 from rfl, nI_mul, nI_add]
theorem xi30 (i j : Nat) : 30 * nI i + nI j = nI (30 * i + j) := by
  rw [show (30 : Int32) = nI 30 from rfl, nI_mul, nI_add]
theorem xi6 (i j : Nat) : 6 * nI i + nI j = nI (6 * i + j) := by
  rw [show (6 : Int32) = nI 6 from rfl, nI_mul, nI_add]
theorem xi4 (i j : Nat) : 4 * nI i + nI j = nI (4 * i + j) := by
  rw [show (4 : Int32) = nI 4 from rfl, nI_mul, nI_add]
theorem xi5 (i j : Nat) : 5 * nI i + nI j = nI (5 * i + j) := by
  rw [show (5 : Int32) = nI 5 from rfl, nI_mul, nI_add]
theorem up_two (k a b i : Nat) (x z : Int32) : (if k = k ∧ 0 = 0 ∧ i = a then x else if k = k ∧ 0 = 0 ∧ i = b then x else z) = if i = a ∨ i = b then x else z := by
  by_cases h1 : i = a
  · rw [if_pos ⟨rfl, rfl, h1⟩, if_pos (.inl h1)]
  · rw [if_neg (fun q => h1 q.2.2)]
    by_cases h2 : i = b
    · rw [if_pos ⟨rfl, rfl, h2⟩, if_pos (.inr h2)]
    · rw [if_neg (fun q => h2 q.2.2), if_neg (fun q => q.elim h1 h2)]
/-- a way on foot told anew -/
theorem ag_walk {S : Nat → Int32} {n : Nat} {h : Hp} (I : Inv S n h) {i j : Nat} (hi : i < 10) (hj : j < 10) (hij : i ≠ j) {mi w : Int32} (hw : W2 mi w) {v : Int64} (D : DM (sAI (sAI (sFI (sAL (sAI (sAI h 23 0 (10 * i + j) mi) 23 0 (10 * j + i) mi) v) 1043 0 0) 41 0 (10 * i + j) w) 41 0 (10 * j + i) w)) :
    Inv S n (sAI (sAI (sFI (sAL (sAI (sAI h 23 0 (10 * i + j) mi) 23 0 (10 * j + i) mi) v) 1043 0 0) 41 0 (10 * i + j) w) 41 0 (10 * j + i) w) := by
  obtain ⟨h0, ⟨hwk, hdg⟩, h3, htn, hpr, hno, hb, hbr, hc⟩ := I.R
  refine ⟨I.W, I.C, I.MW, D, I.S, h0, ⟨fun a b ha hb' => ?_, fun a ha => ?_⟩, h3, htn, hpr, hno, hb, hbr, hc⟩
  · show W2 (if 23 = 23 ∧ 0 = 0 ∧ 10 * a + b = 10 * j + i then mi else if 23 = 23 ∧ 0 = 0 ∧ 10 * a + b = 10 * i + j then mi else xAI h 23 0 (10 * a + b)) (if 41 = 41 ∧ 0 = 0 ∧ 10 * a + b = 10 * j + i then w else if 41 = 41 ∧ 0 = 0 ∧ 10 * a + b = 10 * i + j then w else xAI h 41 0 (10 * a + b))
    rw [up_two, up_two]
    by_cases q : 10 * a + b = 10 * j + i ∨ 10 * a + b = 10 * i + j
    · rw [if_pos q, if_pos q]; exact hw
    · rw [if_neg q, if_neg q]
      exact hwk a b ha hb'
  · show (if 41 = 41 ∧ 0 = 0 ∧ 10 * a + a = 10 * j + i then w else if 41 = 41 ∧ 0 = 0 ∧ 10 * a + a = 10 * i + j then w else xAI h 41 0 (10 * a + a)) = 0
    rw [up_two, if_neg (by omega)]
    exact hdg a ha
theorem w2_had {c m : Int32} (H : W2 c m) : (if m = 0 then (-1) else m) = c := by
  rcases H with ⟨rfl, rfl⟩ | ⟨w, rfl, rfl, h1, h2⟩
  · rfl
  · rw [if_neg (nI_ne0 (by omega) (by omega))]
theorem m_footway {H : Hp} {n0 i j : Nat} {mi w : Int32} (h1 : xFI H 1000 0 = nI n0) (hn : n0 ≤ 10) (hi : i < n0) (hj : j < n0) (hij : i ≠ j) (hm : (mi = -1 ∧ w = 0) ∨ (mi ≠ -1 ∧ okR mi 1 120 ∧ w = mi)) :
    F_X9_footway H (nI i) (nI j) mi = ((if xAI H 41 0 (10 * i + j) = 0 then (-1) else xAI H 41 0 (10 * i + j)), sAI (sAI (sFI H 1043 0 0) 41 0 (10 * i + j) w) 41 0 (10 * j + i) w) := by
  have a1 : xAI (sFI H 1043 0 0) 41 0 (10 * i + j) = xAI H 41 0 (10 * i + j) := rfl
  have pa : okR (nI i) 0 (nI n0 - 1) := (okM_iff (by omega)).mpr ⟨i, hi, rfl⟩
  have pb : okR (nI j) 0 (nI n0 - 1) := (okM_iff (by omega)).mpr ⟨j, hj, rfl⟩
  have pn : ¬ nI i = nI j := fun q => hij (nI_inj (by omega) (by omega) q)
  unfold F_X9_footway
  rw [h1, if_pos pa, if_pos pb, if_neg pn]
  simp only [xi10, nI_clamp (show 10 * i + j < 2 ^ 31 by omega), nI_clamp (show 10 * j + i < 2 ^ 31 by omega), a1]
  rcases hm with ⟨rfl, rfl⟩ | ⟨q1, q2, rfl⟩
  · simp only [if_true]
    split <;> rfl
  · simp only [if_neg q1, if_pos q2]
    split <;> rfl
theorem m_footwayE {H : Hp} {n0 : Nat} {a b mi : Int32} (h1 : xFI H 1000 0 = nI n0) (hn : n0 ≤ 10) :
    (¬ ((∃ k, k < n0 ∧ a = nI k) ∧ ∃ k, k < n0 ∧ b = nI k) → F_X9_footway H a b mi = (0, sFI H 1043 0 1)) ∧
    ((∃ k, k < n0 ∧ a = nI k) → (∃ k, k < n0 ∧ b = nI k) → (a = b ∨ (mi ≠ -1 ∧ ¬ okR mi 1 120)) → F_X9_footway H a b mi = (0, sFI (sFI H 1043 0 0) 1043 0 2)) := by
  constructor
  · intro hh
    unfold F_X9_footway
    rw [h1]
    by_cases pa : okR a 0 (nI n0 - 1)
    · have pb : ¬ okR b 0 (nI n0 - 1) := fun pb => hh ⟨(okM_iff (by omega)).mp pa, (okM_iff (by omega)).mp pb⟩
      rw [if_pos pa, if_neg pb]
    · rw [if_neg pa]
  · intro ha hb hh
    have pa := (okM_iff (n0 := n0) (by omega)).mpr ha
    have pb := (okM_iff (n0 := n0) (by omega)).mpr hb
    unfold F_X9_footway
    rw [h1, if_pos pa, if_pos pb]
    rcases hh with rfl | ⟨q1, q2⟩
    · rw [if_pos rfl]
    · by_cases pn : a = b
      · rw [if_pos pn]
      · rw [if_neg pn, if_neg q1, if_neg q2]
theorem ag_footway {S : Nat → Int32} {n : Nat} {h : Hp} (I : Inv S n h) (a b mi : Int32) : AG S n [cy_e3, cy_e1] (F_X8_footway h a b mi).1 (A1_footway h a b mi) (F_X9_footway (A1_footway h a b mi) a b mi).2 (xAL (F_X9_footway (A1_footway h a b mi) a b mi).2 0 = (F_X9_footway (A1_footway h a b mi) a b mi).1.toInt64) := by
  obtain ⟨⟨n0, ⟨hn, h4, h1, hst⟩, htr⟩, hwk, hrest⟩ := I.R
  have E : ∀ {E : String}, F_X8_footway h a b mi = (.inr E, h) → A1_footway h a b mi = h := fun e => by unfold A1_footway; rw [e]; rfl
  by_cases pa : okS h a
  · by_cases pb : okS h b
    · have ka := (okS_iff h4 hn).mp pa
      have kb := (okS_iff h4 hn).mp pb
      have bad : (a = b ∨ (mi ≠ -1 ∧ ¬ okR mi 1 120)) → F_X8_footway h a b mi = (.inr cy_e1, h) → AG S n [cy_e3, cy_e1] (F_X8_footway h a b mi).1 (A1_footway h a b mi) (F_X9_footway (A1_footway h a b mi) a b mi).2 (xAL (F_X9_footway (A1_footway h a b mi) a b mi).2 0 = (F_X9_footway (A1_footway h a b mi) a b mi).1.toInt64) := by
        intro hh e8
        rw [E e8, e8, (m_footwayE h1 hn).2 ka kb hh]
        exact ag_err I (k := 2) fqe2 rfl (by decide +kernel) (by decide)
      by_cases pe : a = b
      · exact bad (.inl pe) (by unfold F_X8_footway; rw [if_pos pa, if_pos pb, if_pos pe])
      · by_cases p0 : mi = 0
        · exact bad (.inr ⟨by rw [p0]; decide, by rw [p0]; exact fun q => q.1 (by decide)⟩) (by unfold F_X8_footway; rw [if_pos pa, if_pos pb, if_neg pe, if_pos p0])
        · by_cases pr : okR mi (-1) 120
          · obtain ⟨i, hi, rfl⟩ := ka
            obtain ⟨j, hj, rfl⟩ := kb
            have hij : i ≠ j := fun q => pe (by rw [q])
            have hm : ∃ w, W2 mi w ∧ ((mi = -1 ∧ w = 0) ∨ (mi ≠ -1 ∧ okR mi 1 120 ∧ w = mi)) := by
              by_cases q : mi = -1
              · exact ⟨0, .inl ⟨q, rfl⟩, .inl ⟨q, rfl⟩⟩
              · have q0 : ¬ mi < 0 := fun z => by
                  have z1 := pr.1
                  rw [Int32.lt_iff_toInt_lt] at z z1
                  have e1 : (-1 : Int32).toInt = -1 := by decide
                  have e0 : (0 : Int32).toInt = 0 := by decide
                  exact q (Int32.toInt_inj.mp (by omega))
                obtain ⟨k, hk, rfl⟩ := nI_of q0
                have k0 : k ≠ 0 := fun z => p0 (by rw [z]; rfl)
                have k2 := (nI_leI (b := 120) hk (by decide)).mp pr.2
                exact ⟨nI k, .inr ⟨k, rfl, rfl, by omega, k2⟩, .inr ⟨q, ⟨fun z => by have := (nI_ltI (b := 1) hk (by decide)).mp z; omega, pr.2⟩, rfl⟩⟩
            obtain ⟨w, hw, hm⟩ := hm
            have e8 : F_X8_footway h (nI i) (nI j) mi = (.inl (some (.inl (.int (xAI h 23 0 (10 * i + j))))), sAI (sAI h 23 0 (10 * i + j) mi) 23 0 (10 * j + i) mi) := by
              unfold F_X8_footway F_X3_walk F_X3_setWalk
              rw [if_pos pa, if_pos pb, if_neg pe, if_neg p0, if_pos pr, ix10, ix10, at_in h (n := 100) (by decide) rfl (by omega) (by decide), put_in h (n := 100) (by decide) rfl (by omega) (by decide), put_in _ (n := 100) (by decide) rfl (by omega) (by decide)]
            have eA : A1_footway h (nI i) (nI j) mi = sAL (sAI (sAI h 23 0 (10 * i + j) mi) 23 0 (10 * j + i) mi) (xAI h 23 0 (10 * i + j)).toInt64 := by unfold A1_footway; rw [e8]; rfl
            have hh := w2_had (hwk.1 i j (by omega) (by omega))
            rw [eA, e8, m_footway (n0 := n0) (H := sAL (sAI (sAI h 23 0 (10 * i + j) mi) 23 0 (10 * j + i) mi) (xAI h 23 0 (10 * i + j)).toInt64) h1 hn hi hj hij hm]
            refine ⟨⟨I.MW, (I.D.put (by decide)).put (by decide), I.S⟩, fun m => ag_walk I (by omega) (by omega) hij hw m.2, rfl, fun _ => ?_⟩
            show (xAI h 23 0 (10 * i + j)).toInt64 = (if xAI h 41 0 (10 * i + j) = 0 then (-1) else xAI h 41 0 (10 * i + j)).toInt64
            rw [hh]
          · refine bad (.inr ⟨fun q => pr (by rw [q]; exact ⟨by decide, by decide⟩), fun q => pr ⟨fun z => q.1 (Int32.lt_trans z (by decide)), q.2⟩⟩) (by unfold F_X8_footway; rw [if_pos pa, if_pos pb, if_neg pe, if_neg p0, if_neg pr])
    · have e8 : F_X8_footway h a b mi = (.inr cy_e3, h) := by unfold F_X8_footway; rw [if_pos pa, if_neg pb]
      rw [E e8, e8, (m_footwayE h1 hn).1 (fun q => pb ((okS_iff h4 hn).mpr q.2))]
      exact ag_err I (k := 1) fqe1 rfl (by decide +kernel) (by decide)
  · have e8 : F_X8_footway h a b mi = (.inr cy_e3, h) := by unfold F_X8_footway; rw [if_neg pa]
    rw [E e8, e8, (m_footwayE h1 hn).1 (fun q => pa ((okS_iff h4 hn).mpr q.1))]
    exact ag_err I (k := 1) fqe1 rfl (by decide +kernel) (by decide)
