/-! ===== own: bookings: who rides ===== -/
theorem Chn.mem {fr : Nat → Nat → Option Nat} {n : Nat} : ∀ {R : List Nat} {o : Option Nat}, Chn fr n o R → ∀ r, r ∈ R → ∃ t, fr 500 r = some t ∧ t < n := by
  intro R
  induction R with
  | nil => intro o _ r hr; cases hr
  | cons a R ih =>
    intro o hc r hr
    obtain ⟨_, h2, h3⟩ := hc
    rcases List.mem_cons.mp hr with rfl | hr
    · exact h2
    · exact ih h3 r hr
theorem tr_lt {h : Hp} (W : CW h) {b : Nat} (hb : b < xLS h 12) {r : Nat} (hr : r ∈ rls h (bj h b)) : tr h r < xLS h 11 := by
  obtain ⟨t, e, lt⟩ := (W.jc hb).mem r hr
  unfold tr
  rw [e]
  exact lt
theorem gb_spec {h : Hp} {j t : Nat} {dy : Int32} (R0 : List Nat) : ∀ (R : List Nat), (L_X2_goesBy_5 h j R0 t dy R = 1 ∧ ∃ r, r ∈ R ∧ xFI h 800 (tr h r) = xFI h 800 t ∧ (dy = -1 ∨ xFI h 501 r = dy)) ∨ (L_X2_goesBy_5 h j R0 t dy R = 0 ∧ ∀ r, r ∈ R → ¬ (xFI h 800 (tr h r) = xFI h 800 t ∧ (dy = -1 ∨ xFI h 501 r = dy))) := by
  intro R
  induction R with
  | nil => exact .inr ⟨rfl, fun r hr => by cases hr⟩
  | cons r R ih =>
    rw [L_X2_goesBy_5_s]
    unfold B_X2_goesBy_5
    have late : ¬ (xFI h 800 (tr h r) = xFI h 800 t ∧ (dy = -1 ∨ xFI h 501 r = dy)) → ((L_X2_goesBy_5 h j R0 t dy R = 1 ∧ ∃ r', r' ∈ r :: R ∧ xFI h 800 (tr h r') = xFI h 800 t ∧ (dy = -1 ∨ xFI h 501 r' = dy)) ∨ (L_X2_goesBy_5 h j R0 t dy R = 0 ∧ ∀ r', r' ∈ r :: R → ¬ (xFI h 800 (tr h r') = xFI h 800 t ∧ (dy = -1 ∨ xFI h 501 r' = dy)))) := by
      intro hn
      rcases ih with ⟨e, r', hr', q⟩ | ⟨e, q⟩
      · exact .inl ⟨e, r', List.mem_cons_of_mem _ hr', q⟩
      · exact .inr ⟨e, fun r' hr' => by
          rcases List.mem_cons.mp hr' with rfl | hr'
          · exact hn
          · exact q r' hr'⟩
    by_cases h1 : xFI h 800 (tr h r) = xFI h 800 t
    · rw [if_pos h1]
      by_cases h2 : dy = -1
      · rw [if_pos h2]; exact .inl ⟨rfl, r, List.mem_cons_self, h1, .inl h2⟩
      · rw [if_neg h2]
        by_cases h3 : xFI h 501 r = dy
        · rw [if_pos h3]; exact .inl ⟨rfl, r, List.mem_cons_self, h1, .inr h3⟩
        · rw [if_neg h3]
          exact late (fun q => q.2.elim h2 h3)
    · rw [if_neg h1]
      exact late (fun q => h1 q.1)
theorem hr_spec {H : Hp} {b len : Nat} {t dy : Int32} (hb : b < 30) (hl : xAI H 67 0 b = nI len) (h4 : len ≤ 4) :
    (F_X9_hasRide H (nI b) t dy = 1 ∧ ∃ k, k < len ∧ xAI H 71 0 (4 * b + k) = t ∧ xAI H 72 0 (4 * b + k) = dy) ∨ (F_X9_hasRide H (nI b) t dy = 0 ∧ ∀ k, k < len → ¬ (xAI H 71 0 (4 * b + k) = t ∧ xAI H 72 0 (4 * b + k) = dy)) := by
  have key : ∀ (m r fu : Nat) (ha : Int32), r + m = len → m < fu → (ha = 0 ∨ ha = 1) →
      (L_X9_hasRide_6 H (nI b) t dy fu ha r = 1 ∧ (ha = 1 ∨ ∃ k, r ≤ k ∧ k < len ∧ xAI H 71 0 (4 * b + k) = t ∧ xAI H 72 0 (4 * b + k) = dy)) ∨ (L_X9_hasRide_6 H (nI b) t dy fu ha r = 0 ∧ ha = 0 ∧ ∀ k, r ≤ k → k < len → ¬ (xAI H 71 0 (4 * b + k) = t ∧ xAI H 72 0 (4 * b + k) = dy)) := by
    intro m
    induction m with
    | zero =>
      intro r fu ha hr hf h01
      obtain ⟨fu, rfl⟩ : ∃ g, fu = g + 1 := ⟨fu - 1, by omega⟩
      rw [L_X9_hasRide_6_s]
      unfold B_X9_hasRide_6
      rw [nI_clamp (by omega), hl, if_pos (nI_le (by omega) (by omega))]
      rcases h01 with rfl | rfl
      · exact .inr ⟨rfl, rfl, fun k h1 h2 => by omega⟩
      · exact .inl ⟨rfl, .inl rfl⟩
    | succ m ih =>
      intro r fu ha hr hf h01
      obtain ⟨fu, rfl⟩ : ∃ g, fu = g + 1 := ⟨fu - 1, by omega⟩
      rw [L_X9_hasRide_6_s]
      unfold B_X9_hasRide_6
      rw [nI_clamp (by omega), hl, if_neg (fun q => by have := (nI_leI (by omega) (by omega)).mp q; omega), xi4, nI_clamp (by omega)]
      rcases h01 with rfl | rfl
      · rw [if_pos rfl]
        by_cases q1 : xAI H 71 0 (4 * b + r) = t
        · rw [if_pos q1]
          by_cases q2 : xAI H 72 0 (4 * b + r) = dy
          · rw [if_pos q2]
            rcases ih (r + 1) fu 1 (by omega) (by omega) (.inr rfl) with ⟨e, _⟩ | ⟨e, z, _⟩
            · exact .inl ⟨e, .inr ⟨r, Nat.le_refl _, by omega, q1, q2⟩⟩
            · exact absurd z (by decide)
          · rw [if_neg q2]
            rcases ih (r + 1) fu 0 (by omega) (by omega) (.inl rfl) with ⟨e, z | ⟨k, k1, k2⟩⟩ | ⟨e, _, z⟩
            · exact absurd z (by decide)
            · exact .inl ⟨e, .inr ⟨k, by omega, k2⟩⟩
            · exact .inr ⟨e, rfl, fun k h1 h2 => by
                by_cases ek : k = r
                · subst ek; exact fun z => q2 z.2
                · exact z k (by omega) h2⟩
        · rw [if_neg q1]
          rcases ih (r + 1) fu 0 (by omega) (by omega) (.inl rfl) with ⟨e, z | ⟨k, k1, k2⟩⟩ | ⟨e, _, z⟩
          · exact absurd z (by decide)
          · exact .inl ⟨e, .inr ⟨k, by omega, k2⟩⟩
          · exact .inr ⟨e, rfl, fun k h1 h2 => by
              by_cases ek : k = r
              · subst ek; exact fun z => q1 z.1
              · exact z k (by omega) h2⟩
      · rw [if_neg (by decide)]
        rcases ih (r + 1) fu 1 (by omega) (by omega) (.inr rfl) with ⟨e, _⟩ | ⟨e, z, _⟩
        · exact .inl ⟨e, .inl rfl⟩
        · exact absurd z (by decide)
  rcases key len 0 (2147483648 - 0 + 1) 0 (by omega) (by omega) (.inl rfl) with ⟨e, z | ⟨k, k1, k2⟩⟩ | ⟨e, _, z⟩
  · exact absurd z (by decide)
  · exact .inl ⟨e, k, k2⟩
  · exact .inr ⟨e, fun k hk => z k (Nat.zero_le _) hk⟩
/-- the class's goesBy is the reference's hasRide -/
theorem gb_hr {h H : Hp} (W : CW h) (R : RC h) (hA : ∀ s, s ∉ scA → ∀ i j, xAI H s i j = xAI h s i j) {b t d : Nat} (hb : b < xLS h 12) (ht : t < xLS h 11) (hd : d < 100) : F_X9_hasRide H (nI b) (nI t) (nI d) = F_X2_goesBy h (bj h b) (rls h (bj h b)) t (nI d) := by
  have h30 := W.b30
  have h20 := W.t20
  obtain ⟨⟨n0, hs, htr⟩, hwk, h3, htn, hpr, hno, hb1, hbr, hc⟩ := R
  obtain ⟨b1, b2, b3, l1, l4, b4, b5, b6, b7, b8, hk⟩ := hbr b hb
  have r1 := hr_spec (t := nI t) (dy := nI d) (show b < 30 by omega) (show xAI H 67 0 b = nI _ by rw [hA 67 (by decide)]; exact b5) l4
  have r2 := gb_spec (h := h) (j := bj h b) (t := t) (dy := nI d) (rls h (bj h b)) (rls h (bj h b))
  have dn : ¬ nI d = -1 := fun q => nI_pos (n := d) (by omega) (by rw [q]; decide)
  have link : ∀ k r, (rls h (bj h b))[k]? = some r → ((xAI H 71 0 (4 * b + k) = nI t ∧ xAI H 72 0 (4 * b + k) = nI d) ↔ (xFI h 800 (tr h r) = xFI h 800 t ∧ (nI d = -1 ∨ xFI h 501 r = nI d))) := by
    intro k r hkr
    obtain ⟨q1, d', bo, le, -, -, -, -, -, q2, q3, -⟩ := hk k r hkr
    have hlt := tr_lt W hb (List.mem_of_getElem? hkr)
    rw [hA 71 (by decide), hA 72 (by decide), q1, q3, (htr _ hlt).1, (htr t ht).1, q2]
    constructor
    · rintro ⟨x, y⟩; exact ⟨x, .inr y⟩
    · rintro ⟨x, y⟩; exact ⟨x, y.elim (fun z => absurd z dn) id⟩
  unfold F_X2_goesBy
  rcases r1 with ⟨e1, k, hk1, q⟩ | ⟨e1, q1⟩
  · rcases r2 with ⟨e2, -⟩ | ⟨e2, q2⟩
    · rw [e1, e2]
    · have hg := List.getElem?_eq_getElem (l := rls h (bj h b)) hk1
      exact absurd ((link k _ hg).mp q) (q2 _ (List.mem_of_getElem? hg))
  · rcases r2 with ⟨e2, r, hr, q2⟩ | ⟨e2, -⟩
    · obtain ⟨k, hk1, hk2⟩ := List.getElem_of_mem hr
      have hg : (rls h (bj h b))[k]? = some r := by rw [List.getElem?_eq_getElem hk1, hk2]
      exact absurd ((link k r hg).mpr q2) (q1 k hk1)
    · rw [e1, e2]
/-- free seats, both ways -/
theorem free_eq {h H : Hp} (W : CW h) (R : RC h) (hA : ∀ s, s ∉ scA → ∀ i j, xAI H s i j = xAI h s i j) (hF : xFI H 1031 0 = xFI h 1031 0) {t d : Nat} (ht : t < xLS h 11) (hd : d < 100) : F_X9_free H (nI t) (nI d) = F_X8_freeSeats h t (nI d) := by
  have h30 := W.b30
  have h20 := W.t20
  have hb1 : xFI h 1031 0 = nI (xLS h 12) := R.2.2.2.2.2.2.1
  have hbr : ∀ b, b < xLS h 12 → BR h b := R.2.2.2.2.2.2.2.1
  have key : ∀ (m i f1 f2 : Nat) (a : Int32), i + m = xLS h 12 → m < f1 → m < f2 → L_X9_free_10 H (nI t) (nI d) f1 a i = L_X8_freeSeats_8 h t (nI d) f2 a i := by
    intro m
    induction m with
    | zero =>
      intro i f1 f2 a hi h1 h2
      obtain ⟨f1, rfl⟩ : ∃ g, f1 = g + 1 := ⟨f1 - 1, by omega⟩
      obtain ⟨f2, rfl⟩ : ∃ g, f2 = g + 1 := ⟨f2 - 1, by omega⟩
      rw [L_X9_free_10_s, L_X8_freeSeats_8_s]
      unfold B_X9_free_10 B_X8_freeSeats_8
      rw [hF, hb1, if_pos (nI_le (by omega) (by omega)), if_pos (nI_le (by omega) (by omega))]
    | succ m ih =>
      intro i f1 f2 a hi h1 h2
      obtain ⟨f1, rfl⟩ : ∃ g, f1 = g + 1 := ⟨f1 - 1, by omega⟩
      obtain ⟨f2, rfl⟩ : ∃ g, f2 = g + 1 := ⟨f2 - 1, by omega⟩
      rw [L_X9_free_10_s, L_X8_freeSeats_8_s]
      unfold B_X9_free_10 B_X8_freeSeats_8
      have hn : ¬ nI (xLS h 12) ≤ nI i := fun q => by have := (nI_leI (by omega) (by omega)).mp q; omega
      have e1 := (hbr i (by omega)).1
      rw [hF, hb1, if_neg hn, if_neg hn, nI_clamp (by omega), hA 65 (by decide), ← e1, gb_hr W R hA (show i < xLS h 12 by omega) ht hd]
      by_cases q1 : xFI h 103 i = 2
      · rw [if_pos q1, if_pos q1, Int32.sub_zero]
        exact ih (i + 1) f1 f2 a (by omega) (by omega) (by omega)
      · rw [if_neg q1, if_neg q1]
        by_cases q2 : F_X2_goesBy h (bj h i) (rls h (bj h i)) t (nI d) = 0
        · rw [if_pos q2, if_pos q2, Int32.sub_zero]
          exact ih (i + 1) f1 f2 a (by omega) (by omega) (by omega)
        · rw [if_neg q2, if_neg q2, Int32.sub_eq_add_neg]
          exact ih (i + 1) f1 f2 _ (by omega) (by omega) (by omega)
  obtain ⟨⟨n0, hs, htr⟩, -⟩ := R
  unfold F_X9_free F_X8_freeSeats
  rw [nI_clamp (by omega), hA 44 (by decide), ← (htr t ht).2.2.2.1]
  exact key (xLS h 12) 0 _ _ _ (by omega) (by omega) (by omega)
theorem ag_seats {S : Nat → Int32} {n : Nat} {h : Hp} (I : Inv S n h) (t dy : Int32) : AG S n [cy_e3, cy_e1] (F_X8_seats h t dy) (A1_seats h t dy) (F_X9_seats (A1_seats h t dy) t dy).2 (xAL (F_X9_seats (A1_seats h t dy) t dy).2 0 = (F_X9_seats (A1_seats h t dy) t dy).1.toInt64) := by
  have h3 : xFI h 1003 0 = nI (xLS h 11) := I.R.2.2.1
  have h20 := I.W.t20
  have E : ∀ {E : String}, F_X8_seats h t dy = .inr E → A1_seats h t dy = h := fun e => by unfold A1_seats; rw [e]; rfl
  by_cases pt : okT h t
  · obtain ⟨k, hk, rfl⟩ := (okT_iff I.W).mp pt
    have pm : okR (nI k) 0 (xFI h 1003 0 - 1) := by rw [h3]; exact (okM_iff (by omega)).mpr ⟨k, hk, rfl⟩
    by_cases pd : okR dy 0 99
    · obtain ⟨d, rfl, -, hd⟩ := okR_of (a := 0) (n := 99) (by decide) (by decide) pd
      have e8 : F_X8_seats h (nI k) (nI d) = .inl (some (.inl (.int (F_X8_freeSeats h k (nI d))))) := by
        unfold F_X8_seats
        rw [if_pos pt, if_pos pd, nI_clamp (by omega)]
      have eA : A1_seats h (nI k) (nI d) = sAL h (F_X8_freeSeats h k (nI d)).toInt64 := by unfold A1_seats; rw [e8]; rfl
      have e9 : F_X9_seats (sAL h (F_X8_freeSeats h k (nI d)).toInt64) (nI k) (nI d) = (F_X8_freeSeats h k (nI d), sFI (sAL h (F_X8_freeSeats h k (nI d)).toInt64) 1043 0 0) := by
        unfold F_X9_seats
        rw [if_pos (show okR (nI k) 0 (xFI (sAL h (F_X8_freeSeats h k (nI d)).toInt64) 1003 0 - 1) from pm), if_pos pd, free_eq (h := h) (H := sFI (sAL h (F_X8_freeSeats h k (nI d)).toInt64) 1043 0 0) I.W I.R (fun _ _ _ _ => rfl) rfl hk (show d < 100 by omega)]
      rw [eA, e8, e9]
      refine ⟨⟨I.MW, I.D, I.S⟩, fun m => ?_, rfl, fun _ => rfl⟩
      exact Inv.fq (h := sAL h (F_X8_freeSeats h k (nI d)).toInt64) I fqe1 m.2
    · have e8 : F_X8_seats h (nI k) dy = .inr cy_e1 := by unfold F_X8_seats; rw [if_pos pt, if_neg pd]
      have e9 : F_X9_seats h (nI k) dy = (0, sFI (sFI h 1043 0 0) 1043 0 2) := by unfold F_X9_seats; rw [if_pos pm, if_neg pd]
      rw [E e8, e8, e9]
      exact ag_err I (k := 2) fqe2 rfl (by decide +kernel) (by decide)
  · have e8 : F_X8_seats h t dy = .inr cy_e3 := by unfold F_X8_seats; rw [if_neg pt]
    have e9 : F_X9_seats h t dy = (0, sFI h 1043 0 1) := by
      unfold F_X9_seats
      rw [if_neg (fun q => pt ((okT_iff I.W).mpr ((okM_iff (n0 := xLS h 11) (by omega)).mp (by rw [← h3]; exact q))))]
    rw [E e8, e8, e9]
    exact ag_err I (k := 1) fqe1 rfl (by decide +kernel) (by decide)
