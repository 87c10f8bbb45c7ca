/-! ===== own: where one was ahead of a ride ===== -/
theorem ai_ne {h : Hp} {s i j : Nat} {v : Int32} {s' i' j' : Nat} (hs : ¬ s' = s) : xAI (sAI h s i j v) s' i' j' = xAI h s' i' j' := by
  rw [ai_ai, if_neg (fun z => hs z.1)]
/-- one can come from a to b in time -/
def OKA (h : Hp) (E : Nat → Int) (b : Nat) (dep : Int) (a : Nat) : Prop := ¬ chI h a b = -1 ∧ E a + (chI h a b).toInt ≤ dep
def AH (h : Hp) (n0 : Nat) (E : Nat → Int) (b : Nat) (dep : Int) (s : Nat) : Prop := s < n0 ∧ OKA h E b dep s ∧ (s = b ∨ (¬ OKA h E b dep b ∧ ∀ x, x < s → ¬ OKA h E b dep x))
theorem AH.ex {h : Hp} {n0 b : Nat} {E : Nat → Int} {dep : Int} {a : Nat} (hb : b < n0) (ha : a < n0) (o : OKA h E b dep a) : ∃ s, AH h n0 E b dep s := by
  by_cases c : OKA h E b dep b
  · exact ⟨b, hb, c, .inl rfl⟩
  · obtain ⟨s, ⟨s1, s2⟩, s3⟩ := first_of (P := fun s => s < n0 ∧ OKA h E b dep s) a ⟨ha, o⟩
    exact ⟨s, s1, s2, .inr ⟨c, fun x hx z => s3 x hx ⟨by omega, z⟩⟩⟩
theorem OKA.rel {h : Hp} {n0 b : Nat} {E E' : Nat → Int} {dep : Int} (sm : Small h n0) (hb : b < n0) (hd : dep ≤ 200000) (r : ∀ s, s < n0 → REL (E s) (E' s)) {a : Nat} (ha : a < n0) : OKA h E' b dep a ↔ OKA h E b dep a := by
  unfold OKA
  have := r a ha
  rcases sm a b ha hb with z | z
  · exact ⟨fun q => absurd z q.1, fun q => absurd z q.1⟩
  · constructor
    · rintro ⟨q1, q2⟩
      rcases this with ⟨e, _⟩ | ⟨e, e'⟩
      · exact ⟨q1, by omega⟩
      · omega
    · rintro ⟨q1, q2⟩
      rcases this with ⟨e, _⟩ | ⟨e, e'⟩
      · exact ⟨q1, by omega⟩
      · omega
theorem AH.rel {h : Hp} {n0 b : Nat} {E E' : Nat → Int} {dep : Int} (sm : Small h n0) (hb : b < n0) (hd : dep ≤ 200000) (r : ∀ s, s < n0 → REL (E s) (E' s)) {s : Nat} (q : AH h n0 E b dep s) : AH h n0 E' b dep s := by
  obtain ⟨q1, q2, q3⟩ := q
  refine ⟨q1, (OKA.rel sm hb hd r q1).mpr q2, q3.imp id (fun z => ⟨fun y => z.1 ((OKA.rel sm hb hd r hb).mp y), fun x hx y => z.2 x hx ((OKA.rel sm hb hd r (by omega)).mp y)⟩)⟩
theorem IsR.rel {h : Hp} {n0 s t d i j : Nat} {R E R' E' : Nat → Int} (w : World h n0) (ht : t < xLS h 11) (hd : d < 100) (r : ∀ s, s < n0 → REL (R s) (R' s)) (e : REL (E s) (E' s)) : IsR h R' E' s t d i j ↔ IsR h R E s t d i j := by
  obtain ⟨l1, l6, el, hst, hdy⟩ := w.2.2.2 t ht
  constructor
  · rintro ⟨a1, a2, a3, a4, a5, a6⟩
    obtain ⟨b1, b2⟩ := hdy d hd a1
    have := b2 j a3 (by omega)
    refine ⟨a1, a2, a3, a4, ?_, ((r _ (hst i (by omega)).2).lt (b1 i (by omega)).2).mpr a6⟩
    rcases e with ⟨e, _⟩ | ⟨e, e'⟩ <;> omega
  · rintro ⟨a1, a2, a3, a4, a5, a6⟩
    obtain ⟨b1, b2⟩ := hdy d hd a1
    have := b2 j a3 (by omega)
    refine ⟨a1, a2, a3, a4, ?_, ((r _ (hst i (by omega)).2).lt (b1 i (by omega)).2).mp a6⟩
    rcases e with ⟨e, _⟩ | ⟨e, e'⟩ <;> omega
theorem FR.rel {h : Hp} {n0 fd ld s t d i j : Nat} {R E R' E' : Nat → Int} (w : World h n0) (hld : ld < 100) (r : ∀ s, s < n0 → REL (R s) (R' s)) (e : REL (E s) (E' s)) (q : FR h R E fd ld s t d i j) : FR h R' E' fd ld s t d i j := by
  obtain ⟨q1, q2, q3, q4, q5, q6, q7⟩ := q
  exact ⟨q1, q2, q3, (IsR.rel w q1 (by omega) r e).mpr q4, fun i' a j' z => q5 i' a j' ((IsR.rel w q1 (by omega) r e).mp z), fun d' a b i' j' z => q6 d' a b i' j' ((IsR.rel w q1 (by omega) r e).mp z), fun t' a d' b c i' j' z => q7 t' a d' b c i' j' ((IsR.rel w (by omega) (by omega) r e).mp z)⟩
/-! ===== own: the class looks for it ===== -/
theorem rf_iff {h : Hp} {n0 k a b : Nat} {dep : Int32} (sm : Small h n0) (h10 : n0 ≤ 10) (hk : k < 5) (ha : a < n0) (hb : b < n0) (hE : 0 ≤ Ec h k a ∧ (Ec h k a ≤ 300000 ∨ Ec h k a = 1000000000)) (hd : dep.toInt ≤ 200000) :
    dep < F_X5_readyFrom h (nI a) (nI b) (nI k) ↔ ¬ OKA h (Ec h k) b dep.toInt a := by
  have e := rdyFrom_at sm h10 hk ha hb hE.1
  rw [Int32.lt_iff_toInt_lt, e]
  unfold OKA
  by_cases c : chI h a b = -1
  · rw [if_pos (.inl c)]
    exact ⟨fun _ q => q.1 c, fun _ => by omega⟩
  · have z := (sm a b ha hb).resolve_left c
    by_cases c2 : Ec h k a < 1000000000
    · rw [if_neg (fun q => q.elim c (fun y => y c2))]
      exact ⟨fun q y => by have := y.2; omega, fun q => by
        refine Classical.byContradiction fun y => q ⟨c, by omega⟩⟩
    · rw [if_pos (.inr c2)]
      exact ⟨fun q y => by have := y.2; omega, fun _ => by omega⟩
theorem stopAhead_spec {h : Hp} {n0 k b s t r : Nat} {dep : Int32} (w : World h n0) (sm : Small h n0) (hk : k < 4) (hk0 : k ≠ 0) (hb : b < n0) (hE : ∀ a, a < n0 → 0 ≤ Ec h k a ∧ (Ec h k a ≤ 300000 ∨ Ec h k a = 1000000000)) (hd : dep.toInt ≤ 200000)
    (eb : F_X4_boardsAt h t r = nI b) (ed : F_X4_departs h t r = dep) (q : AH h n0 (Ec h k) b dep.toInt s) : F_X5_stopAhead h t r (nI (k + 1)) = nI s := by
  have h10 := w.1
  obtain ⟨q1, q2, q3⟩ := q
  unfold F_X5_stopAhead
  rw [if_neg (fun z => by have := nI_inj (a := k + 1) (b := 1) (by omega) (by decide) z; omega), eb, ed, nI_pred]
  by_cases c : OKA h (Ec h k) b dep.toInt b
  · rw [if_neg (fun z => ((rf_iff sm h10 (by omega) hb hb (hE b hb) hd).mp z) c)]
    rcases q3 with rfl | ⟨z, _⟩
    · rfl
    · exact absurd c z
  · rw [if_pos ((rf_iff sm h10 (by omega) hb hb (hE b hb) hd).mpr c)]
    have q3 : ∀ x, x < s → ¬ OKA h (Ec h k) b dep.toInt x := by
      rcases q3 with rfl | ⟨_, z⟩
      · exact absurd q2 c
      · exact z
    have key : ∀ (mm x fu : Nat), x + mm = s → mm < fu → L_X5_stopAhead_36 h t r (nI (k + 1)) fu x = nI s := by
      intro mm
      induction mm with
      | zero =>
        intro x fu hx hf
        obtain ⟨fu, rfl⟩ : ∃ g, fu = g + 1 := ⟨fu - 1, by omega⟩
        obtain rfl : x = s := by omega
        rw [L_X5_stopAhead_36_s]
        unfold B_X5_stopAhead_36
        rw [w.2.1, if_neg (fun z => by have := (nI_leI (by omega) (by omega)).mp z; omega), eb, ed, nI_pred, if_neg (fun z => ((rf_iff sm h10 (by omega) q1 hb (hE x q1) hd).mp z) q2)]
      | succ mm ih =>
        intro x fu hx hf
        obtain ⟨fu, rfl⟩ : ∃ g, fu = g + 1 := ⟨fu - 1, by omega⟩
        rw [L_X5_stopAhead_36_s]
        unfold B_X5_stopAhead_36
        rw [w.2.1, if_neg (fun z => by have := (nI_leI (by omega) (by omega)).mp z; omega), eb, ed, nI_pred, if_pos ((rf_iff sm h10 (by omega) (show x < n0 by omega) hb (hE x (by omega)) hd).mpr (q3 x (by omega)))]
        exact ih (x + 1) fu (by omega) (by omega)
    exact key s 0 _ (by omega) (by omega)
/-! ===== own: the reference looks for it ===== -/
theorem aheadOf_spec {h H : Hp} {n0 k s t d i : Nat} (W : CW h) (R : RC h) (hs0 : RStop h n0) (w : World h n0) (ma : MA h H) (hk : k < 4) (ht : t < xLS h 11) (hd : d < 100) (hi : i < lnN h t)
    (e9 : xAI H 59 0 k = nI t) (e0 : xAI H 60 0 k = nI d) (e1 : xAI H 61 0 k = nI i) (hE : ∀ a, a < n0 → 0 ≤ Em H k a ∧ Em H k a ≤ 100000000) (q : AH h n0 (Em H k) (stN h t i) (dpI h t d i) s) :
    ∃ H', F_X9_aheadOf H (nI (k + 1)) = (nI s, H') ∧ FX [] [63] H H' ∧ xAI H' 63 0 k = chI h s (stN h t i) ∧ ∀ j, j ≠ k → xAI H' 63 0 j = xAI H 63 0 j := by
  have h10 := w.1
  have h20 := w.2.2.1
  have sm := small_of R hs0
  obtain ⟨l1, l6, el, hst, -⟩ := w.2.2.2 t ht
  obtain ⟨-, s47⟩ := mtrip W R ma ht
  have hb := (hst i hi).2
  generalize hbb : stN h t i = b at q hb
  obtain ⟨q1, q2, q3⟩ := q
  obtain ⟨wt, wt1, wt2, wt3⟩ := hs0.2.2.2 b hb
  have e40 : xAI H 40 0 b = chI h b b := by unfold chI; rw [if_pos rfl, ma.2 40 (by decide), wt3, wt2]
  have tb : (chI h b b).toInt = wt := by unfold chI; rw [if_pos rfl, wt2, nI_toInt (by omega)]
  have edep : F_X9_departure H (nI t) (nI d) (nI i) = F_X7_leaves h t (nI d) (nI i) := dep_eq W R ma.2 ht hd (by rw [el]; exact fun z => by have := (nI_leI (by omega) (by omega)).mp z; omega) (by omega)
  have hEb := hE b hb
  have c0 : xAI H 57 0 (10 * k + b) + chI h b b ≤ F_X7_leaves h t (nI d) (nI i) ↔ OKA h (Em H k) b (dpI h t d i) b := by
    unfold Em at hEb
    rw [Int32.le_iff_toInt_le, add_int (by omega) (by rw [tb]; omega)]
    exact ⟨fun z => ⟨fun y => by rw [y] at tb; have : (-1 : Int32).toInt = -1 := by decide
                                 omega, z⟩, fun z => z.2⟩
  have eF : F_X9_aheadOf H (nI (k + 1)) = if xAI H 57 0 (10 * k + b) + chI h b b ≤ F_X7_leaves h t (nI d) (nI i) then (nI b, sAI H 63 0 k (chI h b b)) else L_X9_aheadOf_102 H (nI (k + 1)) (2147483648 - 0 + 1) (sAI H 63 0 k (chI h b b)) (-1) 0 := by
    unfold F_X9_aheadOf
    rw [nI_m1, nI_clamp (show k < 2 ^ 31 by omega), e9, e1, e0, xi6, nI_clamp (show 6 * t + i < 2 ^ 31 by omega), s47 i hi, hbb, nI_clamp (show b < 2 ^ 31 by omega), e40, edep, ai_ne (s := 63) (s' := 57) (by decide), ai_ne (s := 63) (s' := 40) (by decide), e40, xi10, nI_clamp (show 10 * k + b < 2 ^ 31 by omega)]
  rw [eF]
  by_cases c : OKA h (Em H k) b (dpI h t d i) b
  · rw [if_pos (c0.mpr c)]
    have : s = b := by
      rcases q3 with rfl | ⟨z, _⟩
      · rfl
      · exact absurd c z
    subst this
    exact ⟨_, rfl, FX.sai (by decide), if_pos ⟨rfl, rfl, rfl⟩, fun j hj => if_neg (fun z => hj z.2.2)⟩
  · rw [if_neg (fun z => c (c0.mp z))]
    have q3 : ∀ x, x < s → ¬ OKA h (Em H k) b (dpI h t d i) x := by
      rcases q3 with rfl | ⟨_, z⟩
      · exact absurd q2 c
      · exact z
    have hsb : s ≠ b := fun z => c (z ▸ q2)
    -- a stop on the way
    have way : ∀ x, x < n0 → x ≠ b → (OKA h (Em H k) b (dpI h t d i) x → ¬ xAI h 41 0 (10 * x + b) ≤ 0 ∧ ¬ F_X7_leaves h t (nI d) (nI i) < xAI H 57 0 (10 * k + x) + xAI h 41 0 (10 * x + b) ∧ xAI h 41 0 (10 * x + b) = chI h x b) ∧
        (¬ OKA h (Em H k) b (dpI h t d i) x → xAI h 41 0 (10 * x + b) ≤ 0 ∨ F_X7_leaves h t (nI d) (nI i) < xAI H 57 0 (10 * k + x) + xAI h 41 0 (10 * x + b)) := by
      intro x hx hxb
      have hEx := hE x hx
      have ec : chI h x b = xAI h 23 0 (10 * x + b) := by unfold chI; rw [if_neg hxb]
      unfold OKA
      rw [ec]
      unfold Em at hEx
      rcases R.2.1.1 x b (by omega) (by omega) with ⟨f1, f2⟩ | ⟨w', f1, f2, w1, w2⟩
      · rw [f1, f2]
        exact ⟨fun z => absurd rfl z.1, fun _ => .inl (by decide)⟩
      · have h0 : ¬ nI w' ≤ (0 : Int32) := fun z => by have := (nI_leI (a := w') (b := 0) (by omega) (by decide)).mp z; omega
        rw [f1, f2, Int32.lt_iff_toInt_lt, add_int (by omega) (by rw [nI_toInt (by omega)]; omega)]
        refine ⟨fun z => ⟨h0, fun y => ?_, rfl⟩, fun z => .inr ?_⟩
        · have z2 : (xAI H 57 0 (10 * k + x)).toInt + (nI w').toInt ≤ (F_X7_leaves h t (nI d) (nI i)).toInt := z.2
          omega
        · refine Classical.byContradiction fun y => z ⟨nI_m1ne (by omega), ?_⟩
          show (xAI H 57 0 (10 * k + x)).toInt + (nI w').toInt ≤ (F_X7_leaves h t (nI d) (nI i)).toInt
          omega
    have ma1 : MA h (sAI H 63 0 k (chI h b b)) := ma.fx (fs := []) (ss := [63]) (FX.sai (by decide)) (by decide) (by decide)
    have h1000 : ∀ {Y : Hp}, MA h Y → xFI Y 1000 0 = nI n0 := fun y => (y.1 1000 (by decide) 0).trans hs0.2.2.1
    have e57 : ∀ x, xAI (sAI H 63 0 k (chI h b b)) 57 0 x = xAI H 57 0 x := fun x => ai_ne (by decide)
    have e41 : ∀ x, xAI (sAI H 63 0 k (chI h b b)) 41 0 x = xAI h 41 0 x := fun x => ma1.2 41 (by decide) 0 x
    have key : ∀ (mm x fu : Nat), x + mm = s → mm + 1 < fu → L_X9_aheadOf_102 H (nI (k + 1)) fu (sAI H 63 0 k (chI h b b)) (-1) x = (nI s, sAI (sAI H 63 0 k (chI h b b)) 63 0 k (chI h s b)) := by
      intro mm
      induction mm with
      | zero =>
        intro x fu hx hf
        obtain ⟨fu, rfl⟩ : ∃ g, fu = g + 1 + 1 := ⟨fu - 2, by omega⟩
        obtain rfl : x = s := by omega
        obtain ⟨g1, g2, g3⟩ := (way x q1 hsb).1 q2
        rw [L_X9_aheadOf_102_s]
        unfold B_X9_aheadOf_102
        rw [h1000 ma1, if_neg (fun z => by have := (nI_leI (by omega) (by omega)).mp z; omega), if_pos rfl, nI_m1, nI_clamp (show k < 2 ^ 31 by omega), e9, e1, e0, xi6, nI_clamp (show 6 * t + i < 2 ^ 31 by omega), s47 i hi, hbb, edep, xi10, nI_clamp (show 10 * x + b < 2 ^ 31 by omega), xi10, nI_clamp (show 10 * k + x < 2 ^ 31 by omega), e57, e41, if_neg g1, if_neg g2, g3, L_X9_aheadOf_102_s]
        unfold B_X9_aheadOf_102
        rw [if_neg (nI_m1ne (show x < 2147483648 by omega))]
        split <;> rfl
      | succ mm ih =>
        intro x fu hx hf
        obtain ⟨fu, rfl⟩ : ∃ g, fu = g + 1 := ⟨fu - 1, by omega⟩
        rw [L_X9_aheadOf_102_s]
        unfold B_X9_aheadOf_102
        rw [h1000 ma1, if_neg (fun z => by have := (nI_leI (by omega) (by omega)).mp z; omega), if_pos rfl, nI_m1, nI_clamp (show k < 2 ^ 31 by omega), e9, e1, e0, xi6, nI_clamp (show 6 * t + i < 2 ^ 31 by omega), s47 i hi, hbb, edep, xi10, nI_clamp (show 10 * x + b < 2 ^ 31 by omega), xi10, nI_clamp (show 10 * k + x < 2 ^ 31 by omega), e57, e41]
        have nx := ih (x + 1) fu (by omega) (by omega)
        by_cases exb : x = b
        · rw [exb, R.2.1.2 b (by omega), if_pos (by decide)]
          rw [exb] at nx
          exact nx
        · rcases (way x (by omega) exb).2 (q3 x (by omega)) with g | g
          · rw [if_pos g]
            exact nx
          · by_cases g0 : xAI h 41 0 (10 * x + b) ≤ 0
            · rw [if_pos g0]
              exact nx
            · rw [if_neg g0, if_pos g]
              exact nx
    refine ⟨_, key s 0 _ (by omega) (by omega), (FX.sai (by decide)).trans (FX.sai (by decide)), if_pos ⟨rfl, rfl, rfl⟩, fun j hj => ?_⟩
    rw [ai_ai, if_neg (fun z => hj z.2.2), ai_ai, if_neg (fun z => hj z.2.2)]
