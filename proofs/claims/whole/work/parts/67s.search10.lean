/-! ===== own: the front ===== -/
theorem or_nil (a : Nat) : nI a ||| 0 = nI a := by
  rw [show (0 : Int32) = nI 0 from rfl, fa_or, Nat.or_zero]
theorem frontC {h : Hp} {a b ti : Int32} : ∀ (mm k fu s : Nat) (lc : Int32), k + mm = 5 → 1 ≤ k → mm < fu → s < 2 ^ k → ∃ v : Int32, L_X8_front_28 h a b ti fu lc (nI s) k = (.inl (some (.inl (.int v))), F_X5_seek h a b ti 4) ∧
    ∀ (A : Hp) (fu' : Nat) (lm : Int32), mm < fu' → REL lc.toInt lm.toInt → (∀ k', k ≤ k' → k' ≤ 4 → REL (F_X5_end (F_X5_seek h a b ti 4) (nI k')).toInt (F_X9_timeBy (F_X9_reaches (sFI (sFI A 1043 0 0) 1043 0 0) a ti 4) b (nI k')).toInt) →
      L_X9_front_30 A a b ti fu' (nI s) lm k = (v, F_X9_reaches (sFI (sFI A 1043 0 0) 1043 0 0) a ti 4) := by
  intro mm
  induction mm with
  | zero =>
    intro k fu s lc hk hk1 hf hs
    obtain ⟨fu, rfl⟩ : ∃ g, fu = g + 1 := ⟨fu - 1, by omega⟩
    obtain rfl : k = 5 := by omega
    refine ⟨nI s, ?_, fun A fu' lm hf' _ _ => ?_⟩
    · rw [L_X8_front_28_s]
      unfold B_X8_front_28
      rw [if_pos (by decide)]
    · obtain ⟨fu', rfl⟩ : ∃ g, fu' = g + 1 := ⟨fu' - 1, by omega⟩
      rw [L_X9_front_30_s]
      unfold B_X9_front_30
      rw [if_pos (by decide)]
  | succ mm ih =>
    intro k fu s lc hk hk1 hf hs
    obtain ⟨fu, rfl⟩ : ∃ g, fu = g + 1 := ⟨fu - 1, by omega⟩
    have h4 : ¬ (4 : Int32) < nI k := fun z => by
      have := (nI_ltI (a := 4) (b := k) (by decide) (by omega)).mp z
      omega
    by_cases c : lc ≤ F_X5_end (F_X5_seek h a b ti 4) (nI k)
    · obtain ⟨v, e, f⟩ := ih (k + 1) fu s lc (by omega) (by omega) (by omega) (Nat.lt_of_lt_of_le hs (Nat.pow_le_pow_right (by decide) (by omega)))
      refine ⟨v, ?_, fun A fu' lm hf' r rs => ?_⟩
      · rw [L_X8_front_28_s]
        unfold B_X8_front_28
        rw [if_neg h4, if_pos c]
        exact e
      · obtain ⟨fu', rfl⟩ : ∃ g, fu' = g + 1 := ⟨fu' - 1, by omega⟩
        have c2 : lm ≤ F_X9_timeBy (F_X9_reaches (sFI (sFI A 1043 0 0) 1043 0 0) a ti 4) b (nI k) := by
          rw [Int32.le_iff_toInt_le] at c ⊢
          exact (r.le (rs k (Nat.le_refl _) (by omega))).mp c
        rw [L_X9_front_30_s]
        unfold B_X9_front_30
        rw [if_neg h4, if_pos c2, if_pos c2, or_nil]
        exact f A fu' lm (by omega) r (fun k' h1 h2 => rs k' (by omega) h2)
    · have hp : 2 ^ (k + 1) = 2 ^ k + 2 ^ k := by rw [Nat.pow_succ]; omega
      have es : nI s + ((1 : Int32) <<< (nI k &&& 31)) = nI (s + 2 ^ k) := by rw [shl1 k (by omega), nI_add]
      obtain ⟨v, e, f⟩ := ih (k + 1) fu (s + 2 ^ k) (F_X5_end (F_X5_seek h a b ti 4) (nI k)) (by omega) (by omega) (by omega) (by omega)
      refine ⟨v, ?_, fun A fu' lm hf' r rs => ?_⟩
      · rw [L_X8_front_28_s]
        unfold B_X8_front_28
        rw [if_neg h4, if_neg c, es]
        exact e
      · obtain ⟨fu', rfl⟩ : ∃ g, fu' = g + 1 := ⟨fu' - 1, by omega⟩
        have c2 : ¬ lm ≤ F_X9_timeBy (F_X9_reaches (sFI (sFI A 1043 0 0) 1043 0 0) a ti 4) b (nI k) := by
          rw [Int32.le_iff_toInt_le] at c ⊢
          exact fun z => c ((r.le (rs k (Nat.le_refl _) (by omega))).mpr z)
        rw [L_X9_front_30_s]
        unfold B_X9_front_30
        rw [if_neg h4, if_neg c2, if_neg c2, shl1 k (by omega), or_add hs, ← shl1 k (by omega), es]
        exact f A fu' _ (by omega) (rs k (Nat.le_refl _) (by omega)) (fun k' h1 h2 => rs k' (by omega) h2)
theorem ag_front {S : Nat → Int32} {N : Nat} {h : Hp} (I : Inv S N h) (a b ti : Int32) : AG S N [cy_e3, cy_e1] (F_X8_front h a b ti).1 (A1_front h a b ti) (F_X9_front (A1_front h a b ti) a b ti).2 (xAL (F_X9_front (A1_front h a b ti) a b ti).2 0 = (F_X9_front (A1_front h a b ti) a b ti).1.toInt64) := by
  obtain ⟨n0, hs0, w⟩ := world_of I.W I.R
  have h10 := hs0.1
  by_cases p : okW h a b ti
  · obtain ⟨i, j, t, hi, hj, hij, ht, rfl, rfl, rfl⟩ := okW_of h10 hs0.2.1 p
    obtain ⟨v, e, f⟩ := frontC (h := h) (a := nI i) (b := nI j) (ti := nI t) 4 1 (2147483648 - 1 + 1) 0 1000000000 (by omega) (by omega) (by omega) (by decide)
    have e8 : F_X8_front h (nI i) (nI j) (nI t) = (.inl (some (.inl (.int v))), F_X5_seek h (nI i) (nI j) (nI t) 4) := by
      unfold F_X8_front
      rw [if_pos p]
      exact e
    clear e
    have sx := searches (nn := 4) I hs0 w hi ht (Nat.le_refl 4) (b := j) v.toInt64
    rw [show nI 4 = (4 : Int32) from rfl] at sx
    generalize F_X5_seek h (nI i) (nI j) (nI t) 4 = HC at e8 f sx
    obtain ⟨sc, fq, D, sm, fqm, e43, eal⟩ := sx
    have eA : A1_front h (nI i) (nI j) (nI t) = sAL HC v.toInt64 := by unfold A1_front; rw [e8]; rfl
    rw [eA, e8]
    have p2 : okWM (sAL HC v.toInt64) (nI i) (nI j) (nI t) := (okWM_iff h10 hs0.2.1 ((fq.2.1 1000 (by decide) 0).trans hs0.2.2.1)).mpr p
    unfold F_X9_front
    rw [if_pos p2]
    have ef := f (sAL HC v.toInt64) (2147483648 - 1 + 1) 100000000 (by omega) (.inr ⟨N9, N8⟩) (fun k' h1 h2 => (meet_end I.R hs0 w hi hj ht (Nat.le_refl 4) sc sm h2 (by omega)).1)
    rw [show nI 0 = (0 : Int32) from rfl] at ef
    generalize F_X9_reaches (sFI (sFI (sAL HC v.toInt64) 1043 0 0) 1043 0 0) (nI i) (nI t) 4 = HM at ef sm fqm e43 eal
    rw [ef]
    exact ag_ans I fq D fqm e43 eal
  · have e8 : F_X8_front h a b ti = (.inr (eW h a b), h) := by unfold F_X8_front; rw [if_neg p]
    have eA : A1_front h a b ti = h := by unfold A1_front; rw [e8]; rfl
    rw [eA, e8]
    unfold F_X9_front
    rw [if_neg (fun q => p ((okWM_iff h10 hs0.2.1 hs0.2.2.1).mp q))]
    exact ag_way I (by decide +kernel) (by decide +kernel) (aw1_eq h10 hs0.2.1 hs0.2.2.1 p)
