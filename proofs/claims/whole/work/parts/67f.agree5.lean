/-! ===== own: class and reference agree: ofBooking, concerned, pass, note ===== -/
theorem fa_or (a b : Nat) : nI a ||| nI b = nI (a ||| b) := by
  apply Int32.toBitVec_inj.1
  show BitVec.ofNat 32 a ||| BitVec.ofNat 32 b = BitVec.ofNat 32 (a ||| b)
  apply BitVec.eq_of_getLsbD_eq
  intro i hi
  simp [hi]
theorem or_add {a k : Nat} (h : a < 2 ^ k) : nI a ||| nI (2 ^ k) = nI a + nI (2 ^ k) := by
  rw [fa_or, nI_add, Nat.or_comm]
  have := Nat.two_pow_add_eq_or_of_lt h 1
  rw [Nat.mul_one] at this
  rw [← this, Nat.add_comm]
theorem shl1 : ∀ i : Nat, i < 30 → (1 : Int32) <<< (nI i &&& 31) = nI (2 ^ i) := by decide +kernel
theorem ag_ofBooking {S : Nat → Int32} {n : Nat} {h : Hp} (I : Inv S n h) (x wh : Int32) : AG S n [cy_e3, cy_e1] (F_X8_ofBooking h x wh) (A1_ofBooking h x wh) (F_X9_ofBooking (A1_ofBooking h x wh) x wh).2 (xAL (F_X9_ofBooking (A1_ofBooking h x wh) x wh).2 0 = (F_X9_ofBooking (A1_ofBooking h x wh) x wh).1.toInt64) := by
  by_cases p : okB h x
  · obtain ⟨b, hb, rfl⟩ := (okB_iff I.W).mp p
    have h30 := I.W.b30
    obtain ⟨b1, b2, b3, l1, l4, b4, b5, b6, b7, b8, hk⟩ := I.R.2.2.2.2.2.2.2.1 b hb
    have good : ∀ v : Int32, F_X8_ofBooking h (nI b) wh = .inl (some (.inl (.int v))) → F_X9_ofBooking (sAL h v.toInt64) (nI b) wh = (v, sFI (sAL h v.toInt64) 1043 0 0) → AG S n [cy_e3, cy_e1] (F_X8_ofBooking h (nI b) wh) (A1_ofBooking h (nI b) wh) (F_X9_ofBooking (A1_ofBooking h (nI b) wh) (nI b) wh).2 (xAL (F_X9_ofBooking (A1_ofBooking h (nI b) wh) (nI b) wh).2 0 = (F_X9_ofBooking (A1_ofBooking h (nI b) wh) (nI b) wh).1.toInt64) := by
      intro v e8 e9
      have eA : A1_ofBooking h (nI b) wh = sAL h v.toInt64 := by unfold A1_ofBooking; rw [e8]; rfl
      rw [eA, e8, e9]
      exact ⟨⟨I.MW, I.D, I.S⟩, fun m => Inv.fq (h := sAL h v.toInt64) I.al fqe1 m.2, rfl, fun _ => rfl⟩
    have pm : ∀ v : Int64, okR (nI b) 0 (xFI (sAL h v) 1031 0 - 1) := fun v => (okBM I.W I.R).mpr p
    by_cases w0 : wh = 0
    · subst w0
      exact good (xFI h 103 b) (by unfold F_X8_ofBooking; rw [if_pos p, if_pos ⟨by decide, by decide⟩, if_pos rfl, nI_clamp (by omega)]) (by unfold F_X9_ofBooking; rw [if_pos (pm _), if_pos rfl, nI_clamp (by omega), b1]; rfl)
    · by_cases w1 : wh = 1
      · subst w1
        exact good (xFI h 101 b) (by unfold F_X8_ofBooking; rw [if_pos p, if_pos ⟨by decide, by decide⟩, if_neg (by decide), if_pos rfl, nI_clamp (by omega)]) (by unfold F_X9_ofBooking; rw [if_pos (pm _), if_neg (by decide), if_pos rfl, nI_clamp (by omega), b2]; rfl)
      · by_cases w2 : wh = 2
        · subst w2
          exact good (xFI h 302 (bj h b)) (by unfold F_X8_ofBooking; rw [if_pos p, if_pos ⟨by decide, by decide⟩, if_neg (by decide), if_neg (by decide), if_pos rfl, nI_clamp (by omega)]) (by unfold F_X9_ofBooking; rw [if_pos (pm _), if_neg (by decide), if_neg (by decide), if_pos rfl, nI_clamp (by omega), b4, ← b5]; rfl)
        · by_cases w3 : wh = 3
          · subst w3
            exact good (xFI h 304 (bj h b)) (by unfold F_X8_ofBooking; rw [if_pos p, if_pos ⟨by decide, by decide⟩, if_neg (by decide), if_neg (by decide), if_neg (by decide), nI_clamp (by omega)]) (by unfold F_X9_ofBooking; rw [if_pos (pm _), if_neg (by decide), if_neg (by decide), if_neg (by decide), if_pos rfl, nI_clamp (by omega), b7]; rfl)
          · have hr : ¬ okR wh 0 3 := fun q => by
              obtain ⟨k, rfl, -, hk⟩ := okR_of (a := 0) (n := 3) (by decide) (by decide) q
              rcases (show k = 0 ∨ k = 1 ∨ k = 2 ∨ k = 3 by omega) with rfl | rfl | rfl | rfl
              · exact w0 rfl
              · exact w1 rfl
              · exact w2 rfl
              · exact w3 rfl
            have e8 : F_X8_ofBooking h (nI b) wh = .inr cy_e1 := by unfold F_X8_ofBooking; rw [if_pos p, if_neg hr]
            have eA : A1_ofBooking h (nI b) wh = h := by unfold A1_ofBooking; rw [e8]; rfl
            have e9 : F_X9_ofBooking h (nI b) wh = (0, sFI (sFI h 1043 0 0) 1043 0 2) := by unfold F_X9_ofBooking; rw [if_pos ((okBM I.W I.R).mpr p), if_neg w0, if_neg w1, if_neg w2, if_neg w3]
            rw [eA, e8, e9]
            exact ag_err I (k := 2) fqe2 rfl (by decide +kernel) (by decide)
  · have e8 : F_X8_ofBooking h x wh = .inr cy_e3 := by unfold F_X8_ofBooking; rw [if_neg p]
    have eA : A1_ofBooking h x wh = h := by unfold A1_ofBooking; rw [e8]; rfl
    have e9 : F_X9_ofBooking h x wh = (0, sFI h 1043 0 1) := by unfold F_X9_ofBooking; rw [if_neg (fun q => p ((okBM I.W I.R).mp q))]
    rw [eA, e8, e9]
    exact ag_err I (k := 1) fqe1 rfl (by decide +kernel) (by decide)
/-- who is concerned, both ways -/
theorem conc_eq {h H : Hp} (W : CW h) (R : RC h) (hA : ∀ s i j, xAI (sFI H 1043 0 0) s i j = xAI h s i j) (hF : xFI (sFI H 1043 0 0) 1031 0 = xFI h 1031 0) {t d : Nat} (ht : t < xLS h 11) (hd : d < 100) : ∃ v : Int32, L_X8_concerned_19 h (nI t) (nI d) (2147483648 - 0 + 1) 0 0 = .inl (some (.inl (.int v))) ∧ L_X9_concerned_32 H (nI t) (nI d) (2147483648 - 0 + 1) 0 0 = (v, sFI H 1043 0 0) := by
  have h30 := W.b30
  have h20 := W.t20
  have hb1 : xFI h 1031 0 = nI (xLS h 12) := R.2.2.2.2.2.2.1
  have hbr : ∀ b, b < xLS h 12 → BR h b := R.2.2.2.2.2.2.2.1
  have key : ∀ (m i f1 f2 a : Nat), i + m = xLS h 12 → m < f1 → m < f2 → a < 2 ^ i → ∃ v : Int32, L_X8_concerned_19 h (nI t) (nI d) f1 (nI a) i = .inl (some (.inl (.int v))) ∧ L_X9_concerned_32 H (nI t) (nI d) f2 (nI a) i = (v, sFI H 1043 0 0) := by
    intro m
    induction m with
    | zero =>
      intro i f1 f2 a hi h1 h2 ha
      obtain ⟨f1, rfl⟩ : ∃ g, f1 = g + 1 := ⟨f1 - 1, by omega⟩
      obtain ⟨f2, rfl⟩ : ∃ g, f2 = g + 1 := ⟨f2 - 1, by omega⟩
      rw [L_X9_concerned_32_s, L_X8_concerned_19_s]
      unfold B_X9_concerned_32 B_X8_concerned_19
      rw [hF, hb1, if_pos (nI_le (by omega) (by omega)), if_pos (nI_le (by omega) (by omega))]
      exact ⟨_, rfl, rfl⟩
    | succ m ih =>
      intro i f1 f2 a hi h1 h2 ha
      obtain ⟨f1, rfl⟩ : ∃ g, f1 = g + 1 := ⟨f1 - 1, by omega⟩
      obtain ⟨f2, rfl⟩ : ∃ g, f2 = g + 1 := ⟨f2 - 1, by omega⟩
      rw [L_X9_concerned_32_s, L_X8_concerned_19_s]
      unfold B_X9_concerned_32 B_X8_concerned_19
      have hn : ¬ nI (xLS h 12) ≤ nI i := fun q => by have := (nI_leI (by omega) (by omega)).mp q; omega
      have e1 := (hbr i (by omega)).1
      have p2 : 2 ^ (i + 1) = 2 ^ i + 2 ^ i := by rw [Nat.pow_succ]; omega
      have stay := ih (i + 1) f1 f2 a (by omega) (by omega) (by omega) (by omega)
      have more := ih (i + 1) f1 f2 (a + 2 ^ i) (by omega) (by omega) (by omega) (by omega)
      have o0 : nI a ||| 0 = nI a := by rw [show (0 : Int32) = nI 0 from rfl, fa_or, Nat.or_zero]
      have o1 : nI a ||| nI (2 ^ i) = nI (a + 2 ^ i) := by rw [or_add ha, nI_add]
      rw [hF, hb1, if_neg hn, if_neg hn, nI_clamp (show t < 2 ^ 31 by omega), nI_clamp (show i < 2 ^ 31 by omega), hA, ← e1, gb_hr W R (fun s _ => hA s) (show i < xLS h 12 by omega) ht hd, shl1 i (by omega)]
      unfold F_X0_isOpen
      by_cases q0 : xFI h 103 i = 0
      · rw [if_pos q0, if_pos q0, if_neg (by decide)]
        by_cases q2 : F_X2_goesBy h (bj h i) (rls h (bj h i)) t (nI d) = 0
        · rw [if_pos q2, if_pos q2, o0]; exact stay
        · rw [if_neg q2, if_neg q2, o1, nI_add]; exact more
      · rw [if_neg q0, if_neg q0]
        by_cases q1 : xFI h 103 i = 1
        · rw [if_pos q1, if_pos q1, if_neg (by decide)]
          by_cases q2 : F_X2_goesBy h (bj h i) (rls h (bj h i)) t (nI d) = 0
          · rw [if_pos q2, if_pos q2, o0]; exact stay
          · rw [if_neg q2, if_neg q2, o1, nI_add]; exact more
        · rw [if_neg q1, if_neg q1, if_pos rfl, o0]; exact stay
  exact key (xLS h 12) 0 _ _ 0 (by omega) (by omega) (by omega) (by decide)
theorem ag_concerned {S : Nat → Int32} {n : Nat} {h : Hp} (I : Inv S n h) (t dy : Int32) : AG S n [cy_e3, cy_e1] (F_X8_concerned h t dy) (A1_concerned h t dy) (F_X9_concerned (A1_concerned h t dy) t dy).2 (xAL (F_X9_concerned (A1_concerned h t dy) t dy).2 0 = (F_X9_concerned (A1_concerned h t dy) t dy).1.toInt64) := by
  have h3 : xFI h 1003 0 = nI (xLS h 11) := I.R.2.2.1
  have h20 := I.W.t20
  have E : ∀ {E : String}, F_X8_concerned h t dy = .inr E → A1_concerned h t dy = h := fun e => by unfold A1_concerned; rw [e]; rfl
  by_cases pt : okT h t
  · obtain ⟨k, hk, rfl⟩ := (okT_iff I.W).mp pt
    have pm : okR (nI k) 0 (xFI h 1003 0 - 1) := by rw [h3]; exact (okM_iff (by omega)).mpr ⟨k, hk, rfl⟩
    by_cases pd : okR dy 0 99
    · obtain ⟨d, rfl, -, hd⟩ := okR_of (a := 0) (n := 99) (by decide) (by decide) pd
      have c1 := fun H hA hF => conc_eq (H := H) I.W I.R hA hF hk (show d < 100 by omega)
      obtain ⟨v, e8', -⟩ := c1 h (fun _ _ _ => rfl) rfl
      have e8 : F_X8_concerned h (nI k) (nI d) = .inl (some (.inl (.int v))) := by
        unfold F_X8_concerned
        rw [if_pos pt, if_pos pd]
        exact e8'
      have eA : A1_concerned h (nI k) (nI d) = sAL h v.toInt64 := by unfold A1_concerned; rw [e8]; rfl
      obtain ⟨v', e8'', e9'⟩ := c1 (sAL h v.toInt64) (fun _ _ _ => rfl) rfl
      obtain rfl : v = v' := by
        rw [e8'] at e8''
        simpa using e8''
      have e9 : F_X9_concerned (sAL h v.toInt64) (nI k) (nI d) = (v, sFI (sAL h v.toInt64) 1043 0 0) := by
        unfold F_X9_concerned
        rw [if_pos (show okR (nI k) 0 (xFI (sAL h v.toInt64) 1003 0 - 1) from pm), if_pos pd]
        exact e9'
      rw [eA, e8, e9]
      exact ⟨⟨I.MW, I.D, I.S⟩, fun m => Inv.fq (h := sAL h v.toInt64) I.al fqe1 m.2, rfl, fun _ => rfl⟩
    · have e8 : F_X8_concerned h (nI k) dy = .inr cy_e1 := by unfold F_X8_concerned; rw [if_pos pt, if_neg pd]
      have e9 : F_X9_concerned h (nI k) dy = (0, sFI (sFI h 1043 0 0) 1043 0 2) := by unfold F_X9_concerned; rw [if_pos pm, if_neg pd]
      rw [E e8, e8, e9]
      exact ag_err I (k := 2) fqe2 rfl (by decide +kernel) (by decide)
  · have e8 : F_X8_concerned h t dy = .inr cy_e3 := by unfold F_X8_concerned; rw [if_neg pt]
    have e9 : F_X9_concerned h t dy = (0, sFI h 1043 0 1) := by
      unfold F_X9_concerned
      rw [if_neg (fun q => pt ((okT_iff I.W).mpr ((okM_iff (n0 := xLS h 11) (by omega)).mp (by rw [← h3]; exact q))))]
    rw [E e8, e8, e9]
    exact ag_err I (k := 1) fqe1 rfl (by decide +kernel) (by decide)
