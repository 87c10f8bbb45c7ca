/-! ===== own: where one was ahead, the last stop (out of whole) ===== -/
theorem ai_ne {h : Hp} {s i j : Nat} {v : Int32} {s' i' j' : Nat} (hs : ¬ s' = s) : xAI (sAI h s i j v) s' i' j' = xAI h s' i' j' := by
  rw [ai_ai, if_neg (fun z => hs z.1)]
def OKA (h : Hp) (E : Nat → Int) (b : Nat) (dep : Int) (a : Nat) : Prop := ¬ chI h a b = -1 ∧ E a + (chI h a b).toInt ≤ dep
def AH (h : Hp) (n0 : Nat) (E : Nat → Int) (b : Nat) (dep : Int) (s : Nat) : Prop := s < n0 ∧ OKA h E b dep s ∧ (s = b ∨ (¬ OKA h E b dep b ∧ ∀ x, x < s → ¬ OKA h E b dep x))
theorem AH.ex {h : Hp} {n0 b : Nat} {E : Nat → Int} {dep : Int} {a : Nat} (hb : b < n0) (ha : a < n0) (o : OKA h E b dep a) : ∃ s, AH h n0 E b dep s := by
  by_cases c : OKA h E b dep b
  · exact ⟨b, hb, c, .inl rfl⟩
  · obtain ⟨s, ⟨s1, s2⟩, s3⟩ := first_of (P := fun s => s < n0 ∧ OKA h E b dep s) a ⟨ha, o⟩
    exact ⟨s, s1, s2, .inr ⟨c, fun x hx z => s3 x hx ⟨by omega, z⟩⟩⟩
theorem rf_iff {h : Hp} {n0 k a b : Nat} {dep : Int32} (sm : Small h n0) (h10 : n0 ≤ 10) (hk : k < 5) (ha : a < n0) (hb : b < n0) (hE : 0 ≤ Ec h k a ∧ (Ec h k a ≤ 300000 ∨ Ec h k a = 1000000000)) (hd : dep.toInt ≤ 200000) :
    dep < F_X5_readyFrom h (nI a) (nI b) (nI k) ↔ ¬ OKA h (Ec h k) b dep.toInt a := by
  have e := rdyFrom_at sm h10 hk ha hb hE.1
  rw [Int32.lt_iff_toInt_lt, e]
  unfold OKA
  by_cases c : chI h a b = -1
  · rw [if_pos (.inl c)]
    exact ⟨fun _ q => q.1 c, fun _ => by omega⟩
  · have z := (sm a b ha hb).resolve_left c
    by_cases c2 : Ec h k a < 1000000000
    · rw [if_neg (fun q => q.elim c (fun y => y c2))]
      exact ⟨fun q y => by have := y.2; omega, fun q => by
        refine Classical.byContradiction fun y => q ⟨c, by omega⟩⟩
    · rw [if_pos (.inr c2)]
      exact ⟨fun q y => by have := y.2; omega, fun _ => by omega⟩
theorem stopAhead_spec {h : Hp} {n0 k b s t r : Nat} {dep : Int32} (w : World h n0) (sm : Small h n0) (hk : k < 4) (hk0 : k ≠ 0) (hb : b < n0) (hE : ∀ a, a < n0 → 0 ≤ Ec h k a ∧ (Ec h k a ≤ 300000 ∨ Ec h k a = 1000000000)) (hd : dep.toInt ≤ 200000)
    (eb : F_X4_boardsAt h t r = nI b) (ed : F_X4_departs h t r = dep) (q : AH h n0 (Ec h k) b dep.toInt s) : F_X5_stopAhead h t r (nI (k + 1)) = nI s := by
  have h10 := w.1
  obtain ⟨q1, q2, q3⟩ := q
  unfold F_X5_stopAhead
  rw [if_neg (fun z => by have := nI_inj (a := k + 1) (b := 1) (by omega) (by decide) z; omega), eb, ed, nI_pred]
  by_cases c : OKA h (Ec h k) b dep.toInt b
  · rw [if_neg (fun z => ((rf_iff sm h10 (by omega) hb hb (hE b hb) hd).mp z) c)]
    rcases q3 with rfl | ⟨z, _⟩
    · rfl
    · exact absurd c z
  · rw [if_pos ((rf_iff sm h10 (by omega) hb hb (hE b hb) hd).mpr c)]
    have q3 : ∀ x, x < s → ¬ OKA h (Ec h k) b dep.toInt x := by
      rcases q3 with rfl | ⟨_, z⟩
      · exact absurd q2 c
      · exact z
    have key : ∀ (mm x fu : Nat), x + mm = s → mm < fu → L_X5_stopAhead_36 h t r (nI (k + 1)) fu x = nI s := by
      intro mm
      induction mm with
      | zero =>
        intro x fu hx hf
        obtain ⟨fu, rfl⟩ : ∃ g, fu = g + 1 := ⟨fu - 1, by omega⟩
        obtain rfl : x = s := by omega
        rw [L_X5_stopAhead_36_s]
        unfold B_X5_stopAhead_36
        rw [w.2.1, if_neg (fun z => by have := (nI_leI (by omega) (by omega)).mp z; omega), eb, ed, nI_pred, if_neg (fun z => ((rf_iff sm h10 (by omega) q1 hb (hE x q1) hd).mp z) q2)]
      | succ mm ih =>
        intro x fu hx hf
        obtain ⟨fu, rfl⟩ : ∃ g, fu = g + 1 := ⟨fu - 1, by omega⟩
        rw [L_X5_stopAhead_36_s]
        unfold B_X5_stopAhead_36
        rw [w.2.1, if_neg (fun z => by have := (nI_leI (by omega) (by omega)).mp z; omega), eb, ed, nI_pred, if_pos ((rf_iff sm h10 (by omega) (show x < n0 by omega) hb (hE x (by omega)) hd).mpr (q3 x (by omega)))]
        exact ih (x + 1) fu (by omega) (by omega)
    exact key s 0 _ (by omega) (by omega)
def OKE (h : Hp) (E : Nat → Int) (b : Nat) (e : Int) (s : Nat) : Prop := ¬ toB h b s = -1 ∧ E s + (toB h b s).toInt = e
def LSt (h : Hp) (n0 : Nat) (E : Nat → Int) (b : Nat) (e : Int) (s : Nat) : Prop := s < n0 ∧ OKE h E b e s ∧ (s = b ∨ (¬ OKE h E b e b ∧ ∀ x, x < s → ¬ OKE h E b e x))
theorem LSt.ex {h : Hp} {n0 b : Nat} {E : Nat → Int} {e : Int} (hb : b < n0) (q : EndQ h n0 E b e) : ∃ s, LSt h n0 E b e s := by
  obtain ⟨a, a1, a2, a3, a4⟩ := EndQ.alt.mp q
  by_cases c : OKE h E b e b
  · exact ⟨b, hb, c, .inl rfl⟩
  · obtain ⟨s, ⟨s1, s2⟩, s3⟩ := first_of (P := fun s => s < n0 ∧ OKE h E b e s) a ⟨a1, a3, a4.symm⟩
    exact ⟨s, s1, s2, .inr ⟨c, fun x hx z => s3 x hx ⟨by omega, z⟩⟩⟩
theorem ef_iff {h : Hp} {n0 k b s : Nat} {e : Int32} (sm : Small h n0) (h10 : n0 ≤ 10) (hk : k < 5) (hb : b < n0) (hs : s < n0) (e4 : xFI h 604 0 = nI b) (hE : 0 ≤ Ec h k s ∧ (Ec h k s ≤ 300000 ∨ Ec h k s = 1000000000)) (he : e.toInt ≤ 400000) :
    F_X5_endFrom h (nI s) (nI k) = e ↔ OKE h (Ec h k) b e.toInt s := by
  have ef := endFrom_at sm h10 hk hb hs e4 hE.1
  rw [← Int32.toInt_inj, ef]
  unfold OKE
  by_cases c : toB h b s = -1
  · rw [if_pos (.inl c)]
    exact ⟨fun q => by omega, fun q => absurd c q.1⟩
  · have z := (toB_sm sm hb hs).resolve_left c
    by_cases c2 : Ec h k s < 1000000000
    · rw [if_neg (fun q => q.elim c (fun y => y c2))]
      exact ⟨fun q => ⟨c, q⟩, fun q => q.2⟩
    · rw [if_pos (.inr c2)]
      exact ⟨fun q => by omega, fun q => by have := q.2; omega⟩
theorem lastStop_spec {h : Hp} {n0 k b s : Nat} {e : Int32} (w : World h n0) (sm : Small h n0) (hk : k < 5) (hb : b < n0) (e4 : xFI h 604 0 = nI b) (hE : ∀ a, a < n0 → 0 ≤ Ec h k a ∧ (Ec h k a ≤ 300000 ∨ Ec h k a = 1000000000)) (he : e.toInt ≤ 400000) (q : LSt h n0 (Ec h k) b e.toInt s) :
    F_X5_lastStop h (nI k) e = nI s := by
  have h10 := w.1
  obtain ⟨q1, q2, q3⟩ := q
  unfold F_X5_lastStop
  rw [e4]
  by_cases c : OKE h (Ec h k) b e.toInt b
  · rw [if_pos ((ef_iff sm h10 hk hb hb e4 (hE b hb) he).mpr c)]
    rcases q3 with rfl | ⟨z, _⟩
    · rfl
    · exact absurd c z
  · rw [if_neg (fun z => c ((ef_iff sm h10 hk hb hb e4 (hE b hb) he).mp z))]
    have q3 : ∀ x, x < s → ¬ OKE h (Ec h k) b e.toInt x := by
      rcases q3 with rfl | ⟨_, z⟩
      · exact absurd q2 c
      · exact z
    have key : ∀ (mm x fu : Nat), x + mm = s → mm < fu → L_X5_lastStop_20 h (nI k) e fu x = nI s := by
      intro mm
      induction mm with
      | zero =>
        intro x fu hx hf
        obtain ⟨fu, rfl⟩ : ∃ g, fu = g + 1 := ⟨fu - 1, by omega⟩
        obtain rfl : x = s := by omega
        rw [L_X5_lastStop_20_s]
        unfold B_X5_lastStop_20
        rw [w.2.1, if_neg (fun z => by have := (nI_leI (by omega) (by omega)).mp z; omega), if_pos ((ef_iff sm h10 hk hb q1 e4 (hE x q1) he).mpr q2)]
      | succ mm ih =>
        intro x fu hx hf
        obtain ⟨fu, rfl⟩ : ∃ g, fu = g + 1 := ⟨fu - 1, by omega⟩
        rw [L_X5_lastStop_20_s]
        unfold B_X5_lastStop_20
        rw [w.2.1, if_neg (fun z => by have := (nI_leI (by omega) (by omega)).mp z; omega), if_neg (fun z => q3 x (by omega) ((ef_iff sm h10 hk hb (show x < n0 by omega) e4 (hE x (by omega)) he).mp z))]
        exact ih (x + 1) fu (by omega) (by omega)
    exact key s 0 _ (by omega) (by omega)
