/-! ===== own: class and reference agree: note, calls ===== -/
theorem ag_noteI {S : Nat → Int32} {n : Nat} {h : Hp} (I : Inv S n h) {k c : Nat} (hk : k < xLS h 11) (hc0 : c < 30) (hc1 : xFI h 811 k = nI c) (mi : Int32) {v : Int64} (D : DM (sAI (sAI (sFI (sAL (sFI (sAI h 33 k c mi) 811 k (nI (c + 1))) v) 1043 0 0) 53 0 (30 * k + c) mi) 52 0 k (nI (c + 1)))) :
    Inv S n (sAI (sAI (sFI (sAL (sFI (sAI h 33 k c mi) 811 k (nI (c + 1))) v) 1043 0 0) 53 0 (30 * k + c) mi) 52 0 k (nI (c + 1))) := by
  obtain ⟨⟨n0, hs, htr⟩, hwk, h3, htn, hpr, hno, hb, hbr, hc⟩ := I.R
  refine ⟨I.W, I.C, I.MW, D, I.S, ⟨n0, hs, fun t ht => ?_⟩, hwk, h3, fun t h1 h2 => ?_, hpr, hno, hb, hbr, hc⟩
  · obtain ⟨a, b, c', e, f, g, c0, x1, x2, x3, x4⟩ := htr t ht
    refine ⟨a, b, c', e, f, g, ?_⟩
    by_cases q : t = k
    · subst q
      have ec : c0 = c := nI_inj (by omega) (by omega) (x2.symm.trans hc1)
      subst ec
      refine ⟨c0 + 1, by omega, if_pos ⟨rfl, rfl⟩, if_pos ⟨rfl, rfl, rfl⟩, fun i hi => ?_⟩
      show (if 33 = 33 ∧ t = t ∧ i = c0 then mi else xAI h 33 t i) = (if 53 = 53 ∧ 0 = 0 ∧ 30 * t + i = 30 * t + c0 then mi else xAI h 53 0 (30 * t + i))
      by_cases qi : i = c0
      · rw [if_pos ⟨rfl, rfl, qi⟩, if_pos ⟨rfl, rfl, by omega⟩]
      · rw [if_neg (fun z => qi z.2.2), if_neg (fun z => qi (by have := z.2.2; omega))]
        exact x4 i (by omega)
    · refine ⟨c0, x1, (if_neg (fun z => q z.2)).trans x2, (if_neg (fun z => q z.2.2)).trans x3, fun i hi => ?_⟩
      show (if 33 = 33 ∧ t = k ∧ i = c then mi else xAI h 33 t i) = (if 53 = 53 ∧ 0 = 0 ∧ 30 * t + i = 30 * k + c then mi else xAI h 53 0 (30 * t + i))
      rw [if_neg (fun z => q z.2.1), if_neg (fun z => q (by have := z.2.2; omega))]
      exact x4 i hi
  · obtain ⟨a, b⟩ := htn t h1 h2
    refine ⟨a, ?_⟩
    show (if 52 = 52 ∧ 0 = 0 ∧ t = k then nI (c + 1) else xAI h 52 0 t) = 0
    rw [if_neg (fun z => by
      have := z.2.2
      have : xLS h 11 ≤ t := h1
      omega)]
    exact b
theorem ag_note {S : Nat → Int32} {n : Nat} {h : Hp} (I : Inv S n h) (t mi : Int32) : AG S n [cy_e3, cy_e1, cy_e2] (F_X8_note h t mi).1 (A1_note h t mi) (F_X9_note (A1_note h t mi) t mi).2 (xAL (F_X9_note (A1_note h t mi) t mi).2 0 = (F_X9_note (A1_note h t mi) t mi).1.toInt64) := by
  obtain ⟨⟨n0, hs, htr⟩, hwk, h3, hrest⟩ := I.R
  have h20 := I.W.t20
  have E : ∀ {E : String}, F_X8_note h t mi = (.inr E, h) → A1_note h t mi = h := fun e => by unfold A1_note; rw [e]; rfl
  by_cases pt : okT h t
  · obtain ⟨k, hk, rfl⟩ := (okT_iff I.W).mp pt
    have pm : okR (nI k) 0 (xFI h 1003 0 - 1) := by rw [h3]; exact (okM_iff (by omega)).mpr ⟨k, hk, rfl⟩
    obtain ⟨-, -, -, -, -, -, c, x1, x2, x3, x4⟩ := htr k hk
    by_cases pi : okR mi 0 600
    · by_cases c30 : c = 30
      · subst c30
        have e8 : F_X8_note h (nI k) mi = (.inr cy_e2, h) := by
          unfold F_X8_note
          rw [if_pos pt, if_pos pi, nI_clamp (by omega), x2, if_neg (by decide)]
        have e9 : F_X9_note h (nI k) mi = (0, sFI (sFI h 1043 0 0) 1043 0 3) := by
          unfold F_X9_note
          rw [if_pos pm, if_pos pi, nI_clamp (by omega), if_pos (show xAI (sFI h 1043 0 0) 52 0 k = 30 from x3)]
        rw [E e8, e8, e9]
        exact ag_err I (k := 3) fqe2 rfl (by decide +kernel) (by decide)
      · have hc : c < 30 := by omega
        have e8 : F_X8_note h (nI k) mi = (.inl (some (.inl (.int (nI (c + 1))))), sFI (sAI h 33 k c mi) 811 k (nI (c + 1))) := by
          unfold F_X8_note
          rw [if_pos pt, if_pos pi, nI_clamp (by omega), x2, if_pos (show nI c < 30 from (nI_ltI (b := 30) (by omega) (by decide)).mpr hc), put_in h (n := 30) (by decide) rfl hc (by decide), fi_ai, x2, show nI c + 1 = nI (c + 1) from nI_add c 1, fi_fi, if_pos ⟨rfl, rfl⟩]
        have eA : A1_note h (nI k) mi = sAL (sFI (sAI h 33 k c mi) 811 k (nI (c + 1))) (nI (c + 1)).toInt64 := by unfold A1_note; rw [e8]; rfl
        have e9 : F_X9_note (sAL (sFI (sAI h 33 k c mi) 811 k (nI (c + 1))) (nI (c + 1)).toInt64) (nI k) mi = (nI (c + 1), sAI (sAI (sFI (sAL (sFI (sAI h 33 k c mi) 811 k (nI (c + 1))) (nI (c + 1)).toInt64) 1043 0 0) 53 0 (30 * k + c) mi) 52 0 k (nI (c + 1))) := by
          generalize hH : sAL (sFI (sAI h 33 k c mi) 811 k (nI (c + 1))) (nI (c + 1)).toInt64 = H
          have y1 : okR (nI k) 0 (xFI H 1003 0 - 1) := by rw [← hH]; exact pm
          have y2 : xAI (sFI H 1043 0 0) 52 0 k = nI c := by rw [← hH]; exact x3
          have y3 : xAI (sAI (sFI H 1043 0 0) 53 0 (30 * k + c) mi) 52 0 k = nI c := y2
          unfold F_X9_note
          rw [if_pos y1, if_pos pi, nI_clamp (show k < 2 ^ 31 by omega), y2, if_neg (fun q => by have := nI_inj (a := c) (b := 30) (by omega) (by decide) q; omega), xi30, nI_clamp (by omega), y3, show nI c + 1 = nI (c + 1) from nI_add c 1, ai_ai, if_pos ⟨rfl, rfl, rfl⟩]
        rw [eA, e8, e9]
        refine ⟨⟨I.MW, (I.D.put (by decide)).fput (by decide), I.S⟩, fun m => ag_noteI I hk hc x2 mi m.2, rfl, fun _ => rfl⟩
    · have e8 : F_X8_note h (nI k) mi = (.inr cy_e1, h) := by unfold F_X8_note; rw [if_pos pt, if_neg pi]
      have e9 : F_X9_note h (nI k) mi = (0, sFI (sFI h 1043 0 0) 1043 0 2) := by unfold F_X9_note; rw [if_pos pm, if_neg pi]
      rw [E e8, e8, e9]
      exact ag_err I (k := 2) fqe2 rfl (by decide +kernel) (by decide)
  · have e8 : F_X8_note h t mi = (.inr cy_e3, h) := by unfold F_X8_note; rw [if_neg pt]
    have e9 : F_X9_note h t mi = (0, sFI h 1043 0 1) := by
      unfold F_X9_note
      rw [if_neg (fun q => pt ((okT_iff I.W).mpr ((okM_iff (n0 := xLS h 11) (by omega)).mp (by rw [← h3]; exact q))))]
    rw [E e8, e8, e9]
    exact ag_err I (k := 1) fqe1 rfl (by decide +kernel) (by decide)
