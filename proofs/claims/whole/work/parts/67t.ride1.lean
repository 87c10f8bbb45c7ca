/-! ===== own: the ride by which a stop is reached ===== -/
theorem first_of {P : Nat → Prop} : ∀ n, P n → ∃ m, P m ∧ ∀ k, k < m → ¬ P k := by
  intro n
  induction n using Nat.strongRecOn with
  | _ n ih =>
    intro hn
    by_cases q : ∃ k, k < n ∧ P k
    · obtain ⟨k, hk, pk⟩ := q
      exact ih k hk pk
    · exact ⟨n, hn, fun k hk pk => q ⟨k, hk, pk⟩⟩
/-- a ride that reaches s when E tells -/
def IsR (h : Hp) (R E : Nat → Int) (s t d i j : Nat) : Prop := goN h t d ∧ i < j ∧ j < lnN h t ∧ stN h t j = s ∧ arI h t d j = E s ∧ R (stN h t i) ≤ dpI h t d i
/-- the first such ride -/
def FR (h : Hp) (R E : Nat → Int) (fd ld s t d i j : Nat) : Prop := t < xLS h 11 ∧ fd ≤ d ∧ d ≤ ld ∧ IsR h R E s t d i j ∧ (∀ i', i' < i → ∀ j', ¬ IsR h R E s t d i' j') ∧ (∀ d', fd ≤ d' → d' < d → ∀ i' j', ¬ IsR h R E s t d' i' j') ∧
  ∀ t', t' < t → ∀ d', fd ≤ d' → d' ≤ ld → ∀ i' j', ¬ IsR h R E s t' d' i' j'
theorem FR.ex {h : Hp} {R E : Nat → Int} {fd ld s : Nat} (c : CandT h R fd ld (xLS h 11) s (E s)) : ∃ t d i j, FR h R E fd ld s t d i j := by
  obtain ⟨t0, d0, h1, h2, h3, h4, i0, j0, h5, h6, h7, h8, h9⟩ := c
  obtain ⟨t, ⟨ht, d1, hd1, hd2, i1, j1, q1⟩, nt⟩ := first_of (P := fun t => t < xLS h 11 ∧ ∃ d, fd ≤ d ∧ d ≤ ld ∧ ∃ i j, IsR h R E s t d i j) t0 ⟨h1, d0, h2, h3, i0, j0, h4, h5, h6, h8, h9, h7⟩
  obtain ⟨d, ⟨hd3, hd4, i2, j2, q2⟩, nd⟩ := first_of (P := fun d => fd ≤ d ∧ d ≤ ld ∧ ∃ i j, IsR h R E s t d i j) d1 ⟨hd1, hd2, i1, j1, q1⟩
  obtain ⟨i, ⟨j, q3⟩, ni⟩ := first_of (P := fun i => ∃ j, IsR h R E s t d i j) i2 ⟨j2, q2⟩
  exact ⟨t, d, i, j, ht, hd3, hd4, q3, fun i' hi' j' q => ni i' hi' ⟨j', q⟩, fun d' a b i' j' q => nd d' b ⟨a, by omega, i', j', q⟩, fun t' a d' b c i' j' q => nt t' a ⟨by omega, d', b, c, i', j', q⟩⟩
/-- each place is reached later than the one ahead of it -/
theorem ar_mono {h : Hp} {n0 t d : Nat} (w : World h n0) (ht : t < xLS h 11) (hd : d < 100) (hg : goN h t d) : ∀ q p, p ≠ 0 → p < q → q < lnN h t → arI h t d p < arI h t d q := by
  have har := ((w.2.2.2 t ht).2.2.2.2 d hd hg).2
  intro q
  induction q with
  | zero => intro p _ h2; exact absurd h2 (Nat.not_lt_zero _)
  | succ q ih =>
    intro p h1 h2 h3
    have a1 := har (q + 1) h3 (by omega)
    rw [Nat.add_sub_cancel] at a1
    by_cases e : p = q
    · subst e
      have a2 := har p (by omega) h1
      omega
    · have a2 := har q (by omega) (by omega)
      have := ih p h1 (by omega) (by omega)
      omega
theorem leaving_spec {h : Hp} {n0 t d s : Nat} {ar : Int32} (w : World h n0) (ht : t < xLS h 11) (hd : d < 100) (hg : goN h t d) (hs : s < n0) :
    (∀ j, j ≠ 0 → j < lnN h t → stN h t j = s → arI h t d j = ar.toInt → F_X5_leavingPlace h t (nI d) (nI s) ar = nI j) ∧ ((∀ j, j ≠ 0 → j < lnN h t → stN h t j = s → ¬ arI h t d j = ar.toInt) → F_X5_leavingPlace h t (nI d) (nI s) ar = -1) := by
  have h10 := w.1
  obtain ⟨l1, l6, el, hst, -⟩ := w.2.2.2 t ht
  have step : ∀ (p fu : Nat), p < lnN h t → (stN h t p = s → ¬ arI h t d p = ar.toInt) → L_X5_leavingPlace_3 h t (nI d) (nI s) ar (fu + 1) p = L_X5_leavingPlace_3 h t (nI d) (nI s) ar fu (p + 1) := by
    intro p fu hp hn
    rw [L_X5_leavingPlace_3_s]
    unfold B_X5_leavingPlace_3
    rw [el, if_neg (fun q => by have := (nI_leI (by omega) (by omega)).mp q; omega), (hst p hp).1]
    by_cases c : stN h t p = s
    · rw [if_pos (by rw [c]), if_neg (fun q => hn c (by unfold arI; rw [q]))]
    · rw [if_neg (fun q => c (nI_inj (by have := (hst p hp).2; omega) (by omega) q))]
  unfold F_X5_leavingPlace
  refine ⟨fun j hj0 hj e1 e2 => ?_, fun hn => ?_⟩
  · have key : ∀ (mm p fu : Nat), p + mm = j → p ≠ 0 → mm < fu → L_X5_leavingPlace_3 h t (nI d) (nI s) ar fu p = nI j := by
      intro mm
      induction mm with
      | zero =>
        intro p fu hp hp0 hf
        obtain ⟨fu, rfl⟩ : ∃ g, fu = g + 1 := ⟨fu - 1, by omega⟩
        obtain rfl : p = j := by omega
        rw [L_X5_leavingPlace_3_s]
        unfold B_X5_leavingPlace_3
        rw [el, if_neg (fun q => by have := (nI_leI (by omega) (by omega)).mp q; omega), (hst p hj).1, if_pos (by rw [e1]), if_pos (Int32.toInt_inj.mp e2)]
      | succ mm ih =>
        intro p fu hp hp0 hf
        obtain ⟨fu, rfl⟩ : ∃ g, fu = g + 1 := ⟨fu - 1, by omega⟩
        rw [step p fu (by omega) (fun _ q => by have := ar_mono w ht hd hg j p hp0 (by omega) hj; omega)]
        exact ih (p + 1) fu (by omega) (by omega) (by omega)
    exact key (j - 1) 1 _ (by omega) (by omega) (by omega)
  · have key : ∀ (mm p fu : Nat), p + mm = lnN h t → p ≠ 0 → mm < fu → L_X5_leavingPlace_3 h t (nI d) (nI s) ar fu p = -1 := by
      intro mm
      induction mm with
      | zero =>
        intro p fu hp hp0 hf
        obtain ⟨fu, rfl⟩ : ∃ g, fu = g + 1 := ⟨fu - 1, by omega⟩
        rw [L_X5_leavingPlace_3_s]
        unfold B_X5_leavingPlace_3
        rw [el, if_pos (nI_le (by omega) (by omega))]
      | succ mm ih =>
        intro p fu hp hp0 hf
        obtain ⟨fu, rfl⟩ : ∃ g, fu = g + 1 := ⟨fu - 1, by omega⟩
        rw [step p fu (by omega) (hn p hp0 (by omega))]
        exact ih (p + 1) fu (by omega) (by omega) (by omega)
    exact key (lnN h t - 1) 1 _ (by omega) (by omega) (by omega)
theorem boarding_spec {h : Hp} {n0 t d le m : Nat} (w : World h n0) (ht : t < xLS h 11) (hle : le < lnN h t) (hm : m < 4) :
    (∀ i, i < le → Rc h m (stN h t i) ≤ dpI h t d i → (∀ i', i' < i → ¬ Rc h m (stN h t i') ≤ dpI h t d i') → F_X5_boardingPlace h t (nI d) (nI le) (nI (m + 1)) = nI i) ∧ ((∀ i, i < le → ¬ Rc h m (stN h t i) ≤ dpI h t d i) → F_X5_boardingPlace h t (nI d) (nI le) (nI (m + 1)) = -1) := by
  have h10 := w.1
  obtain ⟨l1, l6, el, hst, -⟩ := w.2.2.2 t ht
  have step : ∀ (p fu : Nat), p < le → L_X5_boardingPlace_3 h t (nI d) (nI le) (nI (m + 1)) (fu + 1) p = if Rc h m (stN h t p) ≤ dpI h t d p then nI p else L_X5_boardingPlace_3 h t (nI d) (nI le) (nI (m + 1)) fu (p + 1) := by
    intro p fu hp
    have := (hst p (by omega)).2
    rw [L_X5_boardingPlace_3_s]
    unfold B_X5_boardingPlace_3
    rw [if_neg (c := nI le ≤ nI p) (fun q => by have := (nI_leI (by omega) (by omega)).mp q; omega), (hst p (by omega)).1, nI_pred, rdy_at h (by omega) (by omega)]
    by_cases c : F_X7_leaves h t (nI d) (nI p) < xAI h 21 0 (10 * m + stN h t p)
    · rw [if_pos c]
      rw [Int32.lt_iff_toInt_lt] at c
      rw [if_neg (fun q => by
        have q : (xAI h 21 0 (10 * m + stN h t p)).toInt ≤ (F_X7_leaves h t (nI d) (nI p)).toInt := q
        omega)]
    · rw [if_neg c]
      rw [Int32.lt_iff_toInt_lt] at c
      rw [if_pos (by
        show (xAI h 21 0 (10 * m + stN h t p)).toInt ≤ (F_X7_leaves h t (nI d) (nI p)).toInt
        omega)]
  unfold F_X5_boardingPlace
  refine ⟨fun i hi e1 e2 => ?_, fun hn => ?_⟩
  · have key : ∀ (mm p fu : Nat), p + mm = i → mm < fu → L_X5_boardingPlace_3 h t (nI d) (nI le) (nI (m + 1)) fu p = nI i := by
      intro mm
      induction mm with
      | zero =>
        intro p fu hp hf
        obtain ⟨fu, rfl⟩ : ∃ g, fu = g + 1 := ⟨fu - 1, by omega⟩
        obtain rfl : p = i := by omega
        rw [step p fu hi, if_pos e1]
      | succ mm ih =>
        intro p fu hp hf
        obtain ⟨fu, rfl⟩ : ∃ g, fu = g + 1 := ⟨fu - 1, by omega⟩
        rw [step p fu (by omega), if_neg (e2 p (by omega))]
        exact ih (p + 1) fu (by omega) (by omega)
    exact key i 0 _ (by omega) (by omega)
  · have key : ∀ (mm p fu : Nat), p + mm = le → mm < fu → L_X5_boardingPlace_3 h t (nI d) (nI le) (nI (m + 1)) fu p = -1 := by
      intro mm
      induction mm with
      | zero =>
        intro p fu hp hf
        obtain ⟨fu, rfl⟩ : ∃ g, fu = g + 1 := ⟨fu - 1, by omega⟩
        rw [L_X5_boardingPlace_3_s]
        unfold B_X5_boardingPlace_3
        rw [if_pos (nI_le (by omega) (by omega))]
      | succ mm ih =>
        intro p fu hp hf
        obtain ⟨fu, rfl⟩ : ∃ g, fu = g + 1 := ⟨fu - 1, by omega⟩
        rw [step p fu (by omega), if_neg (hn p (by omega))]
        exact ih (p + 1) fu (by omega) (by omega)
    exact key le 0 _ (by omega) (by omega)
