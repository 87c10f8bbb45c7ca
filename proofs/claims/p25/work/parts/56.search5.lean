/-! ===== own: ends (out of whole) ===== -/
def EndQ (h : Hp) (n0 : Nat) (E : Nat → Int) (b : Nat) (v : Int) : Prop := ∃ s, s < n0 ∧ E s < 1000000000 ∧ ((s = b ∧ v = E s) ∨ (s ≠ b ∧ ¬ xAI h 23 0 (10 * s + b) = -1 ∧ v = E s + (xAI h 23 0 (10 * s + b)).toInt))
def toB (h : Hp) (b s : Nat) : Int32 := if s = b then 0 else xAI h 23 0 (10 * s + b)
theorem endFrom_at {h : Hp} {n0 k b s : Nat} (sm : Small h n0) (h10 : n0 ≤ 10) (hk : k < 5) (hb : b < n0) (hs : s < n0) (e4 : xFI h 604 0 = nI b) (hE : 0 ≤ Ec h k s) :
    (F_X5_endFrom h (nI s) (nI k)).toInt = if toB h b s = -1 ∨ ¬ Ec h k s < 1000000000 then 1000000000 else Ec h k s + (toB h b s).toInt := by
  unfold F_X5_endFrom toB
  rw [e4, arr_at h hk (by omega)]
  unfold Ec at hE ⊢
  have z0 : (0 : Int32).toInt = 0 := by decide
  by_cases c : s = b
  · rw [if_pos (by rw [c]), if_pos c]
    by_cases c2 : xAI h 20 0 (10 * k + s) < 1000000000
    · have c3 := c2
      rw [Int32.lt_iff_toInt_lt, N9] at c3
      rw [if_pos c2, if_neg (fun q => q.elim (fun z => absurd z (by decide)) (fun z => z c3))]
      exact add_int (by omega) (by omega)
    · have c3 := c2
      rw [Int32.lt_iff_toInt_lt, N9] at c3
      rw [if_neg c2, if_pos (.inr c3)]
      exact N9
  · have ew : F_X3_walk h (nI s) (nI b) = xAI h 23 0 (10 * s + b) := by
      unfold F_X3_walk
      rw [ix10, at_in h (n := 100) (by decide) rfl (by omega) (by decide)]
    rw [if_neg (fun q => c (nI_inj (by omega) (by omega) q)), if_neg c, ew]
    by_cases c1 : xAI h 23 0 (10 * s + b) = -1
    · rw [if_pos c1, if_pos (.inl c1)]
      exact N9
    · rw [if_neg c1]
      by_cases c2 : xAI h 20 0 (10 * k + s) < 1000000000
      · have c3 := c2
        rw [Int32.lt_iff_toInt_lt, N9] at c3
        rw [if_pos c2, if_neg (fun q => q.elim c1 (fun z => z c3))]
        have := sm s b hs hb
        unfold chI at this
        rw [if_neg c] at this
        rcases this with z | z
        · exact absurd z c1
        · exact add_int (by omega) (by omega)
      · have c3 := c2
        rw [Int32.lt_iff_toInt_lt, N9] at c3
        rw [if_neg c2, if_pos (.inr c3)]
        exact N9
theorem toB_sm {h : Hp} {n0 b s : Nat} (sm : Small h n0) (hb : b < n0) (hs : s < n0) : toB h b s = -1 ∨ (0 ≤ (toB h b s).toInt ∧ (toB h b s).toInt ≤ 200) := by
  unfold toB
  by_cases c : s = b
  · rw [if_pos c]
    exact .inr (by decide)
  · rw [if_neg c]
    have := sm s b hs hb
    unfold chI at this
    rwa [if_neg c] at this
theorem EndQ.alt {h : Hp} {n0 b : Nat} {E : Nat → Int} {v : Int} : EndQ h n0 E b v ↔ ∃ s, s < n0 ∧ E s < 1000000000 ∧ ¬ toB h b s = -1 ∧ v = E s + (toB h b s).toInt := by
  have z0 : (0 : Int32).toInt = 0 := by decide
  constructor
  · rintro ⟨s, h1, h2, h3 | h3⟩
    · refine ⟨s, h1, h2, ?_, ?_⟩
      · unfold toB; rw [if_pos h3.1]; decide
      · unfold toB; rw [if_pos h3.1, z0]; omega
    · refine ⟨s, h1, h2, ?_, ?_⟩
      · unfold toB; rw [if_neg h3.1]; exact h3.2.1
      · unfold toB; rw [if_neg h3.1]; exact h3.2.2
  · rintro ⟨s, h1, h2, h3, h4⟩
    refine ⟨s, h1, h2, ?_⟩
    unfold toB at h3 h4
    by_cases c : s = b
    · rw [if_pos c, z0] at h4
      exact .inl ⟨c, by omega⟩
    · rw [if_neg c] at h3 h4
      exact .inr ⟨c, h3, h4⟩
theorem end_spec {h : Hp} {n0 k b : Nat} (w : World h n0) (sm : Small h n0) (hk : k < 5) (hb : b < n0) (e4 : xFI h 604 0 = nI b) (hE : ∀ s, s < n0 → 0 ≤ Ec h k s ∧ (Ec h k s ≤ 300000 ∨ Ec h k s = 1000000000)) :
    LO 1000000000 (EndQ h n0 (Ec h k) b) (F_X5_end h (nI k)).toInt := by
  have h10 := w.1
  have key : ∀ (mm a fu : Nat) (e : Int32), a + mm = n0 → mm < fu → LO 1000000000 (fun v => ∃ s, s < a ∧ Ec h k s < 1000000000 ∧ ¬ toB h b s = -1 ∧ v = Ec h k s + (toB h b s).toInt) e.toInt → LO 1000000000 (EndQ h n0 (Ec h k) b) (L_X5_end_5 h (nI k) fu e a).toInt := by
    intro mm
    induction mm with
    | zero =>
      intro a fu e ha hf lo
      obtain ⟨fu, rfl⟩ : ∃ g, fu = g + 1 := ⟨fu - 1, by omega⟩
      obtain rfl : a = n0 := by omega
      rw [L_X5_end_5_s]
      unfold B_X5_end_5
      rw [w.2.1, if_pos (nI_le (by omega) (by omega))]
      exact lo.same (fun v => EndQ.alt)
    | succ mm ih =>
      intro a fu e ha hf lo
      obtain ⟨fu, rfl⟩ : ∃ g, fu = g + 1 := ⟨fu - 1, by omega⟩
      rw [L_X5_end_5_s]
      unfold B_X5_end_5
      rw [w.2.1, if_neg (fun q => by have := (nI_leI (by omega) (by omega)).mp q; omega)]
      have hr := endFrom_at sm h10 hk hb (show a < n0 by omega) e4 (hE a (by omega)).1
      refine ih (a + 1) fu _ (by omega) (by omega) ?_
      rw [min_int, hr]
      have bnd : ∀ v, (∃ s, s < a ∧ Ec h k s < 1000000000 ∧ ¬ toB h b s = -1 ∧ v = Ec h k s + (toB h b s).toInt) → v < 1000000000 := by
        rintro v ⟨s, b1, b2, b3, rfl⟩
        have := (hE s (by omega)).2
        rcases toB_sm sm hb (show s < n0 by omega) with z | z
        · exact absurd z b3
        · omega
      by_cases c : toB h b a = -1 ∨ ¬ Ec h k a < 1000000000
      · rw [if_pos c, LO.top lo bnd]
        refine lo.same (fun v => ?_)
        constructor
        · rintro ⟨s, b1, b2, b3, b4⟩
          by_cases e2 : s = a
          · subst e2
            exact absurd b2 (c.elim (fun y => absurd y b3) id)
          · exact ⟨s, by omega, b2, b3, b4⟩
        · rintro ⟨s, b1, z⟩
          exact ⟨s, by omega, z⟩
      · rw [if_neg c]
        have c1 : ¬ toB h b a = -1 := fun y => c (.inl y)
        have c2 : Ec h k a < 1000000000 := Classical.byContradiction fun y => c (.inr y)
        refine lo.add ?_ (fun v => ?_) bnd
        · rcases toB_sm sm hb (show a < n0 by omega) with z | z
          · exact absurd z c1
          · have := (hE a (by omega)).2
            omega
        · constructor
          · rintro ⟨s, b1, b2, b3, b4⟩
            by_cases e2 : s = a
            · subst e2
              exact .inr b4
            · exact .inl ⟨s, by omega, b2, b3, b4⟩
          · rintro (⟨s, b1, z⟩ | rfl)
            · exact ⟨s, by omega, z⟩
            · exact ⟨a, by omega, c2, c1, rfl⟩
  exact key n0 0 _ _ (by omega) (by omega) (.inl ⟨N9, fun v q => by
    obtain ⟨s, b1, _⟩ := q
    exact absurd b1 (Nat.not_lt_zero _)⟩)
theorem R0.bnd {h : Hp} {n0 a ti s : Nat} {v : Int} (sm : Small h n0) (ha : a < n0) (hs : s < n0) (hti : ti ≤ 140000) (r : R0 h a ti s v) : 0 ≤ v ∧ v ≤ 200000 := by
  rcases r with ⟨_, rfl⟩ | ⟨e, e1, rfl⟩
  · omega
  · have := sm a s ha hs
    unfold chI at this
    rw [if_neg (fun z => e z.symm)] at this
    rcases this with z | z
    · exact absurd z e1
    · omega
theorem LO.val2 {N : Int} {Q : Int → Prop} {v : Int} (l : LO N Q v) (hQ : ∀ a, Q a → 0 ≤ a ∧ a ≤ 200000) : v = N ∨ (0 ≤ v ∧ v ≤ 200000) := by
  rcases l with ⟨e, _⟩ | ⟨q, _⟩
  · exact .inl e
  · exact .inr (hQ v q)
theorem okW_of {h : Hp} {n0 : Nat} (hn : n0 ≤ 10) (h4 : xFI h 403 0 = nI n0) {a b ti : Int32} (p : okW h a b ti) : ∃ i j t, i < n0 ∧ j < n0 ∧ i ≠ j ∧ t ≤ 140000 ∧ a = nI i ∧ b = nI j ∧ ti = nI t := by
  obtain ⟨⟨pa, pb⟩, pe, pt⟩ := p
  obtain ⟨i, hi, rfl⟩ := (okS_iff h4 hn).mp pa
  obtain ⟨j, hj, rfl⟩ := (okS_iff h4 hn).mp pb
  obtain ⟨t, rfl, -, ht⟩ := okR_of (a := 0) (n := 140000) (by decide) (by decide) pt
  exact ⟨i, j, t, hi, hj, fun q => pe (by rw [q]), ht, rfl, rfl, rfl⟩
