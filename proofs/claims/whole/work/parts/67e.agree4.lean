/-! ===== own: runs, times, rights: class and reference the same ===== -/
theorem Inv.al {S : Nat → Int32} {n : Nat} {h : Hp} {v : Int64} (I : Inv S n h) : Inv S n (sAL h v) := I
theorem RC.al {h : Hp} {v : Int64} (I : RC h) : RC (sAL h v) := I
theorem goes_eq {h H : Hp} (W : CW h) (R : RC h) (hA : ∀ s, s ∉ scA → ∀ i j, xAI H s i j = xAI h s i j) {t d : Nat} (ht : t < xLS h 11) (hd : d < 100) : F_X9_goes H (nI t) (nI d) = F_X7_goes h t (nI d) := by
  have h20 := W.t20
  obtain ⟨⟨n0, hs, htr⟩, -⟩ := R
  obtain ⟨-, -, -, -, -, g, -⟩ := htr t ht
  obtain ⟨g1, g2, -⟩ := g d hd
  have e1 : F_X9_isRun H (nI t) (nI d) = F_X9_isRun h (nI t) (nI d) := by
    unfold F_X9_isRun
    rw [hA 50 (by decide), hA 45 (by decide)]
  have e2 : F_X7_isThere h t (nI d) = F_X9_isRun h (nI t) (nI d) := by
    unfold F_X7_isThere
    rw [if_neg (nI_pos (by omega)), if_neg (fun q => by have := (nI_leI (a := 100) (by decide) (by omega)).mp q; omega), nI_clamp (by omega), g1]
    rcases isRun_01 h (nI t) (nI d) with r | r <;> rw [r] <;> rfl
  unfold F_X9_goes F_X7_goes
  rw [e1, e2, xi100, nI_clamp (by omega), hA 51 (by decide), at_in h (n := 100) (by decide) rfl hd (by decide), g2]
theorem dep_eq {h H : Hp} (W : CW h) (R : RC h) (hA : ∀ s, s ∉ scA → ∀ i j, xAI H s i j = xAI h s i j) {t d p : Nat} (ht : t < xLS h 11) (hd : d < 100) (hp : ¬ xFI h 810 t ≤ nI p) (h6 : p < 6) : F_X9_departure H (nI t) (nI d) (nI p) = F_X7_leaves h t (nI d) (nI p) := by
  have h20 := W.t20
  obtain ⟨⟨n0, hs, htr⟩, -⟩ := R
  obtain ⟨-, -, -, -, ⟨len, st, lv, ar, r1, r2, r3, r4, r5⟩, g, -⟩ := htr t ht
  obtain ⟨g1, g2, -⟩ := g d hd
  rw [r3] at hp
  obtain ⟨s1, s2, s3, s4, s5, -⟩ := r5 p (Nat.lt_of_not_le fun q => hp (nI_le q (by omega)))
  unfold F_X9_departure F_X7_leaves
  rw [xi6, xi100, nI_clamp (by omega), nI_clamp (by omega), hA 49 (by decide), hA 51 (by decide), at_in h (n := 100) (by decide) rfl hd (by decide), at_in h (n := 6) (by decide) rfl h6 (by decide), g2, s4, s5, Int32.mul_comm]
theorem arr_eq {h H : Hp} (W : CW h) (R : RC h) (hA : ∀ s, s ∉ scA → ∀ i j, xAI H s i j = xAI h s i j) {t d p : Nat} (ht : t < xLS h 11) (hd : d < 100) (hp : ¬ xFI h 810 t ≤ nI p) (h6 : p < 6) (h0 : p ≠ 0) : F_X9_arrivalOf H (nI t) (nI d) (nI p) = F_X7_reaches h t (nI d) (nI p) := by
  have h20 := W.t20
  obtain ⟨⟨n0, hs, htr⟩, -⟩ := R
  obtain ⟨-, -, -, -, ⟨len, st, lv, ar, r1, r2, r3, r4, r5⟩, g, -⟩ := htr t ht
  obtain ⟨g1, g2, -⟩ := g d hd
  rw [r3] at hp
  obtain ⟨-, -, -, -, -, -, s7⟩ := r5 p (Nat.lt_of_not_le fun q => hp (nI_le q (by omega)))
  obtain ⟨u1, u2, -⟩ := s7 h0
  unfold F_X9_arrivalOf F_X7_reaches
  rw [xi6, xi100, nI_clamp (by omega), nI_clamp (by omega), hA 48 (by decide), hA 51 (by decide), at_in h (n := 100) (by decide) rfl hd (by decide), at_in h (n := 6) (by decide) rfl h6 (by decide), g2, u1, u2, Int32.mul_comm]
/-- the right of a booking, both ways -/
theorem right_eq {h H : Hp} (W : CW h) (R : RC h) (hA : ∀ s i j, xAI H s i j = xAI h s i j) {b : Nat} (hb : b < xLS h 12) : F_X9_rightOf H (nI b) = F_X0_amount h b := by
  have h30 := W.b30
  obtain ⟨b1, b2, b3, l1, l4, b4, b5, b6, b7, b8, hk⟩ := R.2.2.2.2.2.2.2.1 b hb
  have key : ∀ (Q : List Nat) (k fu : Nat) (az : Int32), (rls h (bj h b)).drop k = Q → Q.length < fu → k + Q.length = (rls h (bj h b)).length →
      L_X9_rightOf_21 H (nI b) fu az k = (if L_X2_isBroken_10 h (bj h b) (rls h (bj h b)) Q az = 0 then (if L_X2_endNow_10 h (bj h b) (rls h (bj h b)) Q az - xFI h 304 (bj h b) < 120 then (if L_X2_endNow_10 h (bj h b) (rls h (bj h b)) Q az - xFI h 304 (bj h b) < 60 then 0 else xFI h 101 b / 4) else xFI h 101 b / 2) else xFI h 101 b) := by
    intro Q
    induction Q with
    | nil =>
      intro k fu az hq hf hl
      obtain ⟨fu, rfl⟩ : ∃ g, fu = g + 1 := ⟨fu - 1, by omega⟩
      have hl' : k = (rls h (bj h b)).length := by simpa using hl
      rw [L_X9_rightOf_21_s, L_X2_isBroken_10_z, L_X2_endNow_10_z, if_pos rfl]
      unfold B_X9_rightOf_21
      rw [nI_clamp (by omega), hA, b5, if_pos (nI_le (by omega) (by omega)), xi5, nI_clamp (by omega), hA, hA, hA, ← b8, ← b7, ← b2]
    | cons r Q ih =>
      intro k fu az hq hf hl
      obtain ⟨fu, rfl⟩ : ∃ g, fu = g + 1 := ⟨fu - 1, by omega⟩
      rw [List.length_cons] at hf hl
      have hkr : (rls h (bj h b))[k]? = some r := by
        have := List.getElem?_drop (xs := rls h (bj h b)) (i := k) (j := 0)
        rw [hq] at this
        simpa using this.symm
      have hq2 : (rls h (bj h b)).drop (k + 1) = Q := by
        rw [← List.drop_drop, hq]
        rfl
      have hr := List.mem_of_getElem? hkr
      have hlt := tr_lt W hb hr
      obtain ⟨q1, d, bo, le, hd, hbl, hl6, hn0, hln, c1, c2, c3, c4, c5, c6, c7⟩ := hk k r hkr
      have hbn : ¬ xFI h 810 (tr h r) ≤ nI bo := fun z => hln (Int32.le_trans z (nI_le (by omega) (by omega)))
      rw [L_X9_rightOf_21_s, L_X2_isBroken_10_s, L_X2_endNow_10_s]
      unfold B_X9_rightOf_21 B_X2_isBroken_10 B_X2_endNow_10
      rw [nI_clamp (by omega), hA, b5, if_neg (fun z => by have := (nI_leI (by omega) (by omega)).mp z; omega), xi4, xi5, nI_clamp (by omega), nI_clamp (by omega)]
      simp only [hA]
      rw [q1, c2, c4, c6, ← c7, ← b2, goes_eq W R (fun s _ => hA s) hlt hd, dep_eq W R (fun s _ => hA s) hlt hd hbn (by omega), arr_eq W R (fun s _ => hA s) hlt hd hln hl6 (by omega), c1]
      unfold F_X4_departs F_X4_arrives
      rw [c1, c3, c5]
      by_cases g1 : F_X7_goes h (tr h r) (nI d) = 0
      · rw [if_pos g1, if_pos g1, if_neg (by decide)]
      · rw [if_neg g1, if_neg g1]
        by_cases g2 : az + xFI h 505 r ≤ F_X7_leaves h (tr h r) (nI d) (nI bo)
        · rw [if_pos g2, if_pos g2]
          exact ih (k + 1) fu _ hq2 (by omega) (by omega)
        · rw [if_neg g2, if_neg g2, if_neg (by decide)]
  unfold F_X9_rightOf F_X0_amount F_X2_isBroken F_X2_endNow
  rw [nI_clamp (by omega), hA, hA, ← b1, ← b6]
  by_cases g1 : xFI h 103 b = 1
  · rw [if_pos g1, if_pos g1]
    exact key _ 0 _ _ rfl (by omega) (by omega)
  · rw [if_neg g1, if_neg g1]
/-- bookings, either way -/
theorem okBM {h : Hp} (W : CW h) (R : RC h) {x : Int32} : okR x 0 (xFI h 1031 0 - 1) ↔ okB h x := by
  have := W.b30
  have e : xFI h 1031 0 = nI (xLS h 12) := R.2.2.2.2.2.2.1
  rw [e, okM_iff (by omega), okB_iff W]
theorem ag_right {S : Nat → Int32} {n : Nat} {h : Hp} (I : Inv S n h) (x : Int32) : AG S n [cy_e3] (F_X8_right h x) (A1_right h x) (F_X9_right (A1_right h x) x).2 (xAL (F_X9_right (A1_right h x) x).2 0 = (F_X9_right (A1_right h x) x).1.toInt64) := by
  by_cases p : okB h x
  · have hx := p
    obtain ⟨b, hb, rfl⟩ := (okB_iff I.W).mp p
    have h30 := I.W.b30
    have e8 : F_X8_right h (nI b) = .inl (some (.inl (.int (F_X0_amount h b)))) := by
      unfold F_X8_right
      rw [if_pos p, nI_clamp (by omega)]
    have eA : A1_right h (nI b) = sAL h (F_X0_amount h b).toInt64 := by unfold A1_right; rw [e8]; rfl
    have e9 : F_X9_right (sAL h (F_X0_amount h b).toInt64) (nI b) = (F_X0_amount h b, sFI (sAL h (F_X0_amount h b).toInt64) 1043 0 0) := by
      unfold F_X9_right
      rw [if_pos (show okR (nI b) 0 (xFI (sAL h (F_X0_amount h b).toInt64) 1031 0 - 1) from (okBM I.W I.R).mpr p), right_eq (h := h) (H := sFI (sAL h (F_X0_amount h b).toInt64) 1043 0 0) I.W I.R (fun _ _ _ => rfl) hb]
    rw [eA, e8, e9]
    exact ⟨⟨I.MW, I.D, I.S⟩, fun m => Inv.fq (h := sAL h (F_X0_amount h b).toInt64) I.al fqe1 m.2, rfl, fun _ => rfl⟩
  · have e8 : F_X8_right h x = .inr cy_e3 := by unfold F_X8_right; rw [if_neg p]
    have eA : A1_right h x = h := by unfold A1_right; rw [e8]; rfl
    have e9 : F_X9_right h x = (0, sFI h 1043 0 1) := by unfold F_X9_right; rw [if_neg (fun q => p ((okBM I.W I.R).mp q))]
    rw [eA, e8, e9]
    exact ag_err I (k := 1) fqe1 rfl (by decide +kernel) (by decide)
/-- a booking's state told anew, both ways -/
theorem inv_state {S : Nat → Int32} {n : Nat} {h : Hp} (I : Inv S n h) {b : Nat} (w : Int32) {v : Int64} (D : DM (sAI (sFI (sAL (sFI h 103 b w) v) 1043 0 0) 65 0 b w)) : Inv S n (sAI (sFI (sAL (sFI h 103 b w) v) 1043 0 0) 65 0 b w) := by
  obtain ⟨h0, hwk, h3, htn, hpr, hno, hb, hbr, hc⟩ := I.R
  refine ⟨I.W, I.C, I.MW, D, I.S, h0, hwk, h3, htn, hpr, hno, hb, fun b' hb' => ?_, hc⟩
  obtain ⟨b1, b2⟩ := hbr b' hb'
  refine ⟨?_, b2⟩
  show (if 103 = 103 ∧ b' = b then w else xFI h 103 b') = (if 65 = 65 ∧ 0 = 0 ∧ b' = b then w else xAI h 65 0 b')
  by_cases q : b' = b
  · rw [if_pos ⟨rfl, q⟩, if_pos ⟨rfl, rfl, q⟩]
  · rw [if_neg (fun z => q z.2), if_neg (fun z => q z.2.2)]
    exact b1
theorem ag_claim {S : Nat → Int32} {n : Nat} {h : Hp} (I : Inv S n h) (x : Int32) : AG S n [cy_e3, cy_e2] (F_X8_claim h x).1 (A1_claim h x) (F_X9_claim (A1_claim h x) x).2 (xAL (F_X9_claim (A1_claim h x) x).2 0 = (F_X9_claim (A1_claim h x) x).1.toInt64) := by
  by_cases p : okB h x
  · obtain ⟨b, hb, rfl⟩ := (okB_iff I.W).mp p
    have h30 := I.W.b30
    have hb1 := (I.R.2.2.2.2.2.2.2.1 b hb)
    by_cases z : F_X0_amount h b = 0
    · have e8 : F_X8_claim h (nI b) = (.inr cy_e2, h) := by
        unfold F_X8_claim
        rw [if_pos p, nI_clamp (by omega), if_pos z]
      have eA : A1_claim h (nI b) = h := by unfold A1_claim; rw [e8]; rfl
      have e9 : F_X9_claim h (nI b) = (0, sFI (sFI h 1043 0 0) 1043 0 2) := by
        unfold F_X9_claim
        rw [if_pos ((okBM I.W I.R).mpr p), right_eq (h := h) (H := sFI h 1043 0 0) I.W I.R (fun _ _ _ => rfl) hb, if_pos z]
      rw [eA, e8, e9]
      exact ag_err I (k := 2) fqe2 rfl (by decide +kernel) (by decide)
    · have e8 : F_X8_claim h (nI b) = (.inl (some (.inl (.int (F_X0_amount h b)))), sFI h 103 b 3) := by
        unfold F_X8_claim
        rw [if_pos p, nI_clamp (by omega), if_neg z]
      have eA : A1_claim h (nI b) = sAL (sFI h 103 b 3) (F_X0_amount h b).toInt64 := by unfold A1_claim; rw [e8]; rfl
      have e9 : F_X9_claim (sAL (sFI h 103 b 3) (F_X0_amount h b).toInt64) (nI b) = (F_X0_amount h b, sAI (sFI (sAL (sFI h 103 b 3) (F_X0_amount h b).toInt64) 1043 0 0) 65 0 b 3) := by
        unfold F_X9_claim
        rw [if_pos (show okR (nI b) 0 (xFI (sAL (sFI h 103 b 3) (F_X0_amount h b).toInt64) 1031 0 - 1) from (okBM I.W I.R).mpr p), right_eq (h := h) (H := sFI (sAL (sFI h 103 b 3) (F_X0_amount h b).toInt64) 1043 0 0) I.W I.R (fun _ _ _ => rfl) hb, if_neg z, nI_clamp (by omega)]
      rw [eA, e8, e9]
      exact ⟨⟨I.MW, I.D.fput (by decide), I.S⟩, fun m => inv_state I 3 m.2, rfl, fun _ => rfl⟩
  · have e8 : F_X8_claim h x = (.inr cy_e3, h) := by unfold F_X8_claim; rw [if_neg p]
    have eA : A1_claim h x = h := by unfold A1_claim; rw [e8]; rfl
    have e9 : F_X9_claim h x = (0, sFI h 1043 0 1) := by unfold F_X9_claim; rw [if_neg (fun q => p ((okBM I.W I.R).mp q))]
    rw [eA, e8, e9]
    exact ag_err I (k := 1) fqe1 rfl (by decide +kernel) (by decide)
theorem ag_buy {S : Nat → Int32} {n : Nat} {h : Hp} (I : Inv S n h) (x : Int32) : AG S n [cy_e3, cy_e2] (F_X8_buy h x).1 (A1_buy h x) (F_X9_buy (A1_buy h x) x).2 (xAL (F_X9_buy (A1_buy h x) x).2 0 = (F_X9_buy (A1_buy h x) x).1.toInt64) := by
  by_cases p : okB h x
  · obtain ⟨b, hb, rfl⟩ := (okB_iff I.W).mp p
    have h30 := I.W.b30
    obtain ⟨b1, b2, -⟩ := (I.R.2.2.2.2.2.2.2.1 b hb)
    by_cases z : xFI h 103 b = 0
    · have e8 : F_X8_buy h (nI b) = (.inl (some (.inl (.int (xFI h 101 b)))), sFI h 103 b 1) := by
        unfold F_X8_buy
        rw [if_pos p, nI_clamp (by omega), if_pos z]
        rfl
      have eA : A1_buy h (nI b) = sAL (sFI h 103 b 1) (xFI h 101 b).toInt64 := by unfold A1_buy; rw [e8]; rfl
      have e9 : F_X9_buy (sAL (sFI h 103 b 1) (xFI h 101 b).toInt64) (nI b) = (xFI h 101 b, sAI (sFI (sAL (sFI h 103 b 1) (xFI h 101 b).toInt64) 1043 0 0) 65 0 b 1) := by
        unfold F_X9_buy
        rw [if_pos (show okR (nI b) 0 (xFI (sAL (sFI h 103 b 1) (xFI h 101 b).toInt64) 1031 0 - 1) from (okBM I.W I.R).mpr p), nI_clamp (by omega), if_pos (show xAI (sFI (sAL (sFI h 103 b 1) (xFI h 101 b).toInt64) 1043 0 0) 65 0 b = 0 from b1.symm.trans z), b2]
        rfl
      rw [eA, e8, e9]
      exact ⟨⟨I.MW, I.D.fput (by decide), I.S⟩, fun m => inv_state I 1 m.2, rfl, fun _ => rfl⟩
    · have e8 : F_X8_buy h (nI b) = (.inr cy_e2, h) := by
        unfold F_X8_buy
        rw [if_pos p, nI_clamp (by omega), if_neg z]
      have eA : A1_buy h (nI b) = h := by unfold A1_buy; rw [e8]; rfl
      have e9 : F_X9_buy h (nI b) = (0, sFI (sFI h 1043 0 0) 1043 0 2) := by
        unfold F_X9_buy
        rw [if_pos ((okBM I.W I.R).mpr p), nI_clamp (by omega), if_neg (show ¬ xAI (sFI h 1043 0 0) 65 0 b = 0 from fun q => z (b1.trans q))]
      rw [eA, e8, e9]
      exact ag_err I (k := 2) fqe2 rfl (by decide +kernel) (by decide)
  · have e8 : F_X8_buy h x = (.inr cy_e3, h) := by unfold F_X8_buy; rw [if_neg p]
    have eA : A1_buy h x = h := by unfold A1_buy; rw [e8]; rfl
    have e9 : F_X9_buy h x = (0, sFI h 1043 0 1) := by unfold F_X9_buy; rw [if_neg (fun q => p ((okBM I.W I.R).mp q))]
    rw [eA, e8, e9]
    exact ag_err I (k := 1) fqe1 rfl (by decide +kernel) (by decide)
