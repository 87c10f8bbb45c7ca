/-! ===== own: the reference finds the first ride ===== -/
theorem IsR.j {h : Hp} {n0 s t d i j i' j' : Nat} {R E : Nat → Int} (w : World h n0) (ht : t < xLS h 11) (hd : d < 100) (q : IsR h R E s t d i j) (q' : IsR h R E s t d i' j') : j' = j := by
  obtain ⟨a1, a2, a3, a4, a5, a6⟩ := q
  obtain ⟨b1, b2, b3, b4, b5, b6⟩ := q'
  by_cases c : j' < j
  · have := ar_mono w ht hd a1 j j' (by omega) c a3
    omega
  · by_cases c2 : j < j'
    · have := ar_mono w ht hd a1 j' j (by omega) c2 b3
      omega
    · omega
theorem six : ∀ nn : Nat, nn < 36 → nI nn / 6 = nI (nn / 6) ∧ nI nn - nI (nn / 6) * 6 = nI (nn % 6) := by decide +kernel
theorem isRide_iff {h H : Hp} {n0 t d s m i j : Nat} (W : CW h) (R : RC h) (w : World h n0) (ma : MA h H) (ht : t < xLS h 11) (hd : d < 100) (hs : s < n0) (hm : m < 4) (hg : goN h t d) (hij : i < j) (hj : j < lnN h t) :
    (IsR h (Rm H m) (Em H (m + 1)) s t d i j → F_X9_isRide H (nI (m + 1)) (nI s) (nI t) (nI d) (nI i) (nI j) = 1) ∧ (¬ IsR h (Rm H m) (Em H (m + 1)) s t d i j → F_X9_isRide H (nI (m + 1)) (nI s) (nI t) (nI d) (nI i) (nI j) = 0) := by
  have h10 := w.1
  have h20 := w.2.2.1
  obtain ⟨l1, l6, el, hst, -⟩ := w.2.2.2 t ht
  obtain ⟨-, s47⟩ := mtrip W R ma ht
  have si := (hst i (by omega)).2
  have sj := (hst j hj).2
  have e : F_X9_isRide H (nI (m + 1)) (nI s) (nI t) (nI d) (nI i) (nI j) = if nI (stN h t j) = nI s then (if F_X7_reaches h t (nI d) (nI j) = xAI H 57 0 (10 * (m + 1) + s) then (if F_X7_leaves h t (nI d) (nI i) < xAI H 58 0 (10 * m + stN h t i) then 0 else 1) else 0) else 0 := by
    unfold F_X9_isRide
    rw [xi6, nI_clamp (show 6 * t + j < 2 ^ 31 by omega), s47 j hj, arr_eq W R ma.2 ht hd (by rw [el]; exact fun q => by have := (nI_leI (by omega) (by omega)).mp q; omega) (by omega) (by omega), xi10, nI_clamp (show 10 * (m + 1) + s < 2 ^ 31 by omega), dep_eq W R ma.2 ht hd (by rw [el]; exact fun q => by have := (nI_leI (by omega) (by omega)).mp q; omega) (by omega), nI_m1, xi6, nI_clamp (show 6 * t + i < 2 ^ 31 by omega), s47 i (by omega), xi10, nI_clamp (show 10 * m + stN h t i < 2 ^ 31 by omega)]
  rw [e]
  refine ⟨fun q => ?_, fun q => ?_⟩
  · obtain ⟨a1, a2, a3, a4, a5, a6⟩ := q
    have a6 : (xAI H 58 0 (10 * m + stN h t i)).toInt ≤ (F_X7_leaves h t (nI d) (nI i)).toInt := a6
    rw [if_pos (by rw [a4]), if_pos (Int32.toInt_inj.mp a5), if_neg (fun z => by
      rw [Int32.lt_iff_toInt_lt] at z
      omega)]
  · by_cases c1 : nI (stN h t j) = nI s
    · rw [if_pos c1]
      by_cases c2 : F_X7_reaches h t (nI d) (nI j) = xAI H 57 0 (10 * (m + 1) + s)
      · rw [if_pos c2]
        by_cases c3 : F_X7_leaves h t (nI d) (nI i) < xAI H 58 0 (10 * m + stN h t i)
        · rw [if_pos c3]
        · rw [Int32.lt_iff_toInt_lt] at c3
          refine absurd ⟨hg, hij, hj, nI_inj (by omega) (by omega) c1, congrArg Int32.toInt c2, ?_⟩ q
          show (xAI H 58 0 (10 * m + stN h t i)).toInt ≤ (F_X7_leaves h t (nI d) (nI i)).toInt
          omega
      · rw [if_neg c2]
    · rw [if_neg c1]
/-- what a place of the row of rows tells -/
def cdF (H : Hp) (k be : Int32) (t : Nat) (dy : Int32) (nn : Nat) : Int32 := if (nI nn) - (nI nn) / 6 * 6 ≤ (nI nn) / 6 then 0 else (if (xAI H 46 0 (nI t).toNatClampNeg) ≤ ((nI nn) - (nI nn) / 6 * 6) then 0 else (if (F_X9_isRide H k be (nI t) dy ((nI nn) / 6) ((nI nn) - (nI nn) / 6 * 6)) = 0 then 0 else 1))
theorem cdF_spec {h H : Hp} {n0 t d s m nn : Nat} (W : CW h) (R : RC h) (w : World h n0) (ma : MA h H) (ht : t < xLS h 11) (hd : d < 100) (hs : s < n0) (hm : m < 4) (hg : goN h t d) (hnn : nn < 36) :
    (IsR h (Rm H m) (Em H (m + 1)) s t d (nn / 6) (nn % 6) → cdF H (nI (m + 1)) (nI s) t (nI d) nn = 1) ∧ (¬ IsR h (Rm H m) (Em H (m + 1)) s t d (nn / 6) (nn % 6) → cdF H (nI (m + 1)) (nI s) t (nI d) nn = 0) := by
  have h20 := w.2.2.1
  obtain ⟨l1, l6, el, hst, -⟩ := w.2.2.2 t ht
  obtain ⟨s46, -⟩ := mtrip W R ma ht
  obtain ⟨x1, x2⟩ := six nn hnn
  unfold cdF
  rw [x1, x2, nI_clamp (show t < 2 ^ 31 by omega), s46]
  by_cases c1 : nn % 6 ≤ nn / 6
  · rw [if_pos (nI_le c1 (by omega))]
    exact ⟨fun q => by have := q.2.1; omega, fun _ => rfl⟩
  · rw [if_neg (fun q => c1 ((nI_leI (by omega) (by omega)).mp q))]
    by_cases c2 : lnN h t ≤ nn % 6
    · rw [if_pos (nI_le c2 (by omega))]
      exact ⟨fun q => by have := q.2.2.1; omega, fun _ => rfl⟩
    · rw [if_neg (fun q => c2 ((nI_leI (by omega) (by omega)).mp q))]
      obtain ⟨i1, i2⟩ := isRide_iff W R w ma ht hd hs hm hg (show nn / 6 < nn % 6 by omega) (show nn % 6 < lnN h t by omega)
      refine ⟨fun q => ?_, fun q => ?_⟩
      · rw [i1 q, if_neg (by decide)]
      · rw [i2 q, if_pos rfl]
/-- a ride told -/
def wrR (H : Hp) (m : Nat) (t d i j : Nat) : Hp := sAI (sAI (sAI (sAI H 59 0 m (nI t)) 60 0 m (nI d)) 61 0 m (nI i)) 62 0 m (nI j)
theorem findsRide_spec {h H : Hp} {n0 t d s m i j ti : Nat} (W : CW h) (R : RC h) (w : World h n0) (ma : MA h H) (hti : ti ≤ 140000) (e22 : xFI H 1022 0 = nI ti) (hs : s < n0) (hm : m < 4) (q : FR h (Rm H m) (Em H (m + 1)) (ti / 1440 - 1) (ti / 1440 + 1) s t d i j) :
    F_X9_findsRide H (nI (m + 1)) (nI s) = wrR H m t d i j := by
  have h20 := w.2.2.1
  have hq97 : ti / 1440 ≤ 97 := by omega
  obtain ⟨q1, q2, q3, q4, q5, q6, q7⟩ := q
  have e3 : xFI H 1003 0 = nI (xLS h 11) := (ma.1 1003 (by decide) 0).trans R.2.2.1
  -- a place
  have place : ∀ (x dd nn fu : Nat) (rec5 : Hp → Int32 → Nat → Hp) (rec30 : Hp → Int32 → Int32 → Hp), x < xLS h 11 → dd < 100 → ti / 1440 - 1 ≤ dd → dd ≤ ti / 1440 + 1 → goN h x dd → nn < 36 →
      L_X9_findsRide_52 H (nI (m + 1)) (nI s) H 0 x rec5 H 0 (nI dd) rec30 (K_X9_findsRide_52 H (nI (m + 1)) (nI s) H 0 x rec5 H 0 (nI dd) rec30) (fu + 1) H 0 nn =
      if cdF H (nI (m + 1)) (nI s) x (nI dd) nn = 0 then L_X9_findsRide_52 H (nI (m + 1)) (nI s) H 0 x rec5 H 0 (nI dd) rec30 (K_X9_findsRide_52 H (nI (m + 1)) (nI s) H 0 x rec5 H 0 (nI dd) rec30) fu H (cdF H (nI (m + 1)) (nI s) x (nI dd) nn) (nn + 1)
      else L_X9_findsRide_52 H (nI (m + 1)) (nI s) H 0 x rec5 H 0 (nI dd) rec30 (K_X9_findsRide_52 H (nI (m + 1)) (nI s) H 0 x rec5 H 0 (nI dd) rec30) fu (wrR H m x dd (nn / 6) (nn % 6)) (cdF H (nI (m + 1)) (nI s) x (nI dd) nn) (nn + 1) := by
    intro x dd nn fu rec5 rec30 hx hd hd1 hd2 hg hnn
    have lk := looked_at W R ma hx hti e22 hd1 hd2
    obtain ⟨x1, x2⟩ := six nn hnn
    rw [L_X9_findsRide_52_s]
    unfold B_X9_findsRide_52 wrR
    rw [if_neg (c := (36 : Int32) ≤ nI nn) (fun z => by have := (nI_leI (a := 36) (b := nn) (by decide) (by omega)).mp z; omega), if_pos rfl, if_neg (fun z => (lk.mp z) hg), nI_m1, nI_clamp (show m < 2 ^ 31 by omega)]
    unfold cdF
    rw [x1, x2]
  -- a day without
  have dayN : ∀ (x dd : Nat) (rec5 : Hp → Int32 → Nat → Hp) (rec30 : Hp → Int32 → Int32 → Hp), x < xLS h 11 → ti / 1440 - 1 ≤ dd → dd ≤ ti / 1440 + 1 → (∀ i' j', ¬ IsR h (Rm H m) (Em H (m + 1)) s x dd i' j') →
      L_X9_findsRide_52 H (nI (m + 1)) (nI s) H 0 x rec5 H 0 (nI dd) rec30 (K_X9_findsRide_52 H (nI (m + 1)) (nI s) H 0 x rec5 H 0 (nI dd) rec30) (2147483648 - 0 + 1) H 0 0 = rec30 H 0 (nI (dd + 1)) := by
    intro x dd rec5 rec30 hx hd1 hd2 hn
    by_cases g : goN h x dd
    · have key : ∀ (mm nn fu : Nat), nn + mm = 36 → mm < fu → L_X9_findsRide_52 H (nI (m + 1)) (nI s) H 0 x rec5 H 0 (nI dd) rec30 (K_X9_findsRide_52 H (nI (m + 1)) (nI s) H 0 x rec5 H 0 (nI dd) rec30) fu H 0 nn = rec30 H 0 (nI (dd + 1)) := by
        intro mm
        induction mm with
        | zero =>
          intro nn fu hnn hf
          obtain ⟨fu, rfl⟩ : ∃ g, fu = g + 1 := ⟨fu - 1, by omega⟩
          obtain rfl : nn = 36 := by omega
          rw [L_X9_findsRide_52_s]
          unfold B_X9_findsRide_52 K_X9_findsRide_52
          rw [if_pos (by decide), show nI dd + 1 = nI (dd + 1) from nI_add dd 1]
        | succ mm ih =>
          intro nn fu hnn hf
          obtain ⟨fu, rfl⟩ : ∃ g, fu = g + 1 := ⟨fu - 1, by omega⟩
          have e0 := (cdF_spec W R w ma hx (show dd < 100 by omega) hs hm g (show nn < 36 by omega)).2 (hn _ _)
          rw [place x dd nn fu rec5 rec30 hx (by omega) hd1 hd2 g (by omega), e0, if_pos rfl]
          exact ih (nn + 1) fu (by omega) (by omega)
      exact key 36 0 _ (by omega) (by omega)
    · have lk := looked_at W R ma hx hti e22 hd1 hd2
      rw [L_X9_findsRide_52_s]
      unfold B_X9_findsRide_52 K_X9_findsRide_52
      rw [if_neg (c := (36 : Int32) ≤ nI 0) (by decide), if_pos rfl, if_pos (lk.mpr g), show nI dd + 1 = nI (dd + 1) from nI_add dd 1]
  -- the day
  have dayS : ∀ (rec5 : Hp → Int32 → Nat → Hp) (rec30 : Hp → Int32 → Int32 → Hp),
      L_X9_findsRide_52 H (nI (m + 1)) (nI s) H 0 t rec5 H 0 (nI d) rec30 (K_X9_findsRide_52 H (nI (m + 1)) (nI s) H 0 t rec5 H 0 (nI d) rec30) (2147483648 - 0 + 1) H 0 0 = rec30 (wrR H m t d i j) 1 (nI (d + 1)) := by
    intro rec5 rec30
    have hl6 := (w.2.2.2 t q1).2.1
    have hj := q4.2.2.1
    have hij := q4.2.1
    have key : ∀ (mm nn fu : Nat), nn + mm = 6 * i + j → mm + 1 < fu → L_X9_findsRide_52 H (nI (m + 1)) (nI s) H 0 t rec5 H 0 (nI d) rec30 (K_X9_findsRide_52 H (nI (m + 1)) (nI s) H 0 t rec5 H 0 (nI d) rec30) fu H 0 nn = rec30 (wrR H m t d i j) 1 (nI (d + 1)) := by
      intro mm
      induction mm with
      | zero =>
        intro nn fu hnn hf
        obtain ⟨fu, rfl⟩ : ∃ g, fu = g + 1 + 1 := ⟨fu - 2, by omega⟩
        have hi6 : nn / 6 = i := by omega
        have hj6 : nn % 6 = j := by omega
        have e1 := (cdF_spec W R w ma q1 (show d < 100 by omega) hs hm q4.1 (show nn < 36 by omega)).1 (by rw [hi6, hj6]; exact q4)
        rw [place t d nn (fu + 1) rec5 rec30 q1 (by omega) q2 q3 q4.1 (by omega), e1, if_neg (by decide), hi6, hj6, L_X9_findsRide_52_s]
        unfold B_X9_findsRide_52 K_X9_findsRide_52
        rw [show nI d + 1 = nI (d + 1) from nI_add d 1, if_neg (c := (1 : Int32) = 0) (by decide)]
        split <;> rfl
      | succ mm ih =>
        intro nn fu hnn hf
        obtain ⟨fu, rfl⟩ : ∃ g, fu = g + 1 := ⟨fu - 1, by omega⟩
        have no : ¬ IsR h (Rm H m) (Em H (m + 1)) s t d (nn / 6) (nn % 6) := fun z => by
          by_cases c : nn / 6 < i
          · exact q5 _ c _ z
          · have := IsR.j w q1 (show d < 100 by omega) q4 z
            omega
        have e0 := (cdF_spec W R w ma q1 (show d < 100 by omega) hs hm q4.1 (show nn < 36 by omega)).2 no
        rw [place t d nn fu rec5 rec30 q1 (by omega) q2 q3 q4.1 (by omega), e0, if_pos rfl]
        exact ih (nn + 1) fu (by omega) (by omega)
    exact key (6 * i + j) 0 _ (by omega) (by omega)
  -- the days of a trip without
  have daysN : ∀ (x : Nat) (rec5 : Hp → Int32 → Nat → Hp), x < xLS h 11 → ∀ (mm dd fu : Nat), dd + mm = ti / 1440 + 2 → ti / 1440 - 1 ≤ dd → mm < fu → (∀ d', dd ≤ d' → d' ≤ ti / 1440 + 1 → ∀ i' j', ¬ IsR h (Rm H m) (Em H (m + 1)) s x d' i' j') →
      L_X9_findsRide_30 H (nI (m + 1)) (nI s) H 0 x rec5 (K_X9_findsRide_30 H (nI (m + 1)) (nI s) H 0 x rec5) fu H 0 (nI dd) = rec5 H 0 (x + 1) := by
    intro x rec5 hx mm
    induction mm with
    | zero =>
      intro dd fu hdd hd1 hf hn
      obtain ⟨fu, rfl⟩ : ∃ g, fu = g + 1 := ⟨fu - 1, by omega⟩
      rw [L_X9_findsRide_30_s]
      unfold B_X9_findsRide_30 K_X9_findsRide_30
      rw [e22, nI_quo2 (by omega), show nI (ti / 1440) + 1 = nI (ti / 1440 + 1) from nI_add _ 1, if_pos (nI_lt (by omega) (by omega))]
    | succ mm ih =>
      intro dd fu hdd hd1 hf hn
      obtain ⟨fu, rfl⟩ : ∃ g, fu = g + 1 := ⟨fu - 1, by omega⟩
      rw [L_X9_findsRide_30_s]
      unfold B_X9_findsRide_30
      rw [e22, nI_quo2 (by omega), show nI (ti / 1440) + 1 = nI (ti / 1440 + 1) from nI_add _ 1, if_neg (nI_pos_lt (by omega) (by omega) (by omega)), if_pos rfl, dayN x dd rec5 _ hx hd1 (by omega) (hn dd (Nat.le_refl _) (by omega))]
      exact ih (dd + 1) fu (by omega) (by omega) (by omega) (fun d' a b => hn d' (by omega) b)
  have daysS : ∀ (rec5 : Hp → Int32 → Nat → Hp) (mm dd fu : Nat), dd + mm = d → ti / 1440 - 1 ≤ dd → mm + 1 < fu →
      L_X9_findsRide_30 H (nI (m + 1)) (nI s) H 0 t rec5 (K_X9_findsRide_30 H (nI (m + 1)) (nI s) H 0 t rec5) fu H 0 (nI dd) = rec5 (wrR H m t d i j) 1 (t + 1) := by
    intro rec5 mm
    induction mm with
    | zero =>
      intro dd fu hdd hd1 hf
      obtain ⟨fu, rfl⟩ : ∃ g, fu = g + 1 + 1 := ⟨fu - 2, by omega⟩
      obtain rfl : dd = d := by omega
      rw [L_X9_findsRide_30_s]
      unfold B_X9_findsRide_30
      rw [e22, nI_quo2 (by omega), show nI (ti / 1440) + 1 = nI (ti / 1440 + 1) from nI_add _ 1, if_neg (nI_pos_lt (by omega) (by omega) (by omega)), if_pos rfl, dayS, L_X9_findsRide_30_s]
      unfold B_X9_findsRide_30 K_X9_findsRide_30
      rw [if_neg (c := (1 : Int32) = 0) (by decide)]
      split <;> rfl
    | succ mm ih =>
      intro dd fu hdd hd1 hf
      obtain ⟨fu, rfl⟩ : ∃ g, fu = g + 1 := ⟨fu - 1, by omega⟩
      rw [L_X9_findsRide_30_s]
      unfold B_X9_findsRide_30
      rw [e22, nI_quo2 (by omega), show nI (ti / 1440) + 1 = nI (ti / 1440 + 1) from nI_add _ 1, if_neg (nI_pos_lt (by omega) (by omega) (by omega)), if_pos rfl, dayN t dd rec5 _ q1 hd1 (by omega) (q6 dd hd1 (by omega))]
      exact ih (dd + 1) fu (by omega) (by omega) (by omega)
  -- all days of a trip: from the first one, which may lie before all days
  have allN : ∀ (x : Nat) (rec5 : Hp → Int32 → Nat → Hp), x < xLS h 11 → (∀ d', ti / 1440 - 1 ≤ d' → d' ≤ ti / 1440 + 1 → ∀ i' j', ¬ IsR h (Rm H m) (Em H (m + 1)) s x d' i' j') →
      L_X9_findsRide_30 H (nI (m + 1)) (nI s) H 0 x rec5 (K_X9_findsRide_30 H (nI (m + 1)) (nI s) H 0 x rec5) ((2147483647 - (nI ti / 1440 - 1).toInt).toNat + 1) H 0 (nI ti / 1440 - 1) = rec5 H 0 (x + 1) := by
    intro x rec5 hx hn
    rw [nI_quo2 (by omega)]
    by_cases q0 : ti / 1440 = 0
    · have ef : (2147483647 - (nI (ti / 1440) - 1).toInt).toNat + 1 = 2147483648 + 1 := by rw [q0]; decide
      rw [ef, L_X9_findsRide_30_s]
      unfold B_X9_findsRide_30
      rw [e22, nI_quo2 (by omega), q0, if_neg (by decide), if_pos rfl, L_X9_findsRide_52_s]
      unfold B_X9_findsRide_52 K_X9_findsRide_52
      rw [if_neg (c := (36 : Int32) ≤ nI 0) (by decide), if_pos rfl, looked_m1, if_pos rfl, show nI 0 - 1 + 1 = nI 0 from by decide]
      exact daysN x rec5 hx 2 0 2147483648 (by omega) (by omega) (by omega) (fun d' a b => hn d' (by omega) b)
    · obtain ⟨mq, hmq⟩ : ∃ mq, ti / 1440 = mq + 1 := ⟨ti / 1440 - 1, by omega⟩
      rw [hmq, nI_pred]
      exact daysN x rec5 hx 3 mq _ (by omega) (by omega) (by rw [nI_toInt (by omega)]; omega) (fun d' a b => hn d' (by omega) b)
  have allS : ∀ (rec5 : Hp → Int32 → Nat → Hp), L_X9_findsRide_30 H (nI (m + 1)) (nI s) H 0 t rec5 (K_X9_findsRide_30 H (nI (m + 1)) (nI s) H 0 t rec5) ((2147483647 - (nI ti / 1440 - 1).toInt).toNat + 1) H 0 (nI ti / 1440 - 1) = rec5 (wrR H m t d i j) 1 (t + 1) := by
    intro rec5
    rw [nI_quo2 (by omega)]
    by_cases q0 : ti / 1440 = 0
    · have ef : (2147483647 - (nI (ti / 1440) - 1).toInt).toNat + 1 = 2147483648 + 1 := by rw [q0]; decide
      rw [ef, L_X9_findsRide_30_s]
      unfold B_X9_findsRide_30
      rw [e22, nI_quo2 (by omega), q0, if_neg (by decide), if_pos rfl, L_X9_findsRide_52_s]
      unfold B_X9_findsRide_52 K_X9_findsRide_52
      rw [if_neg (c := (36 : Int32) ≤ nI 0) (by decide), if_pos rfl, looked_m1, if_pos rfl, show nI 0 - 1 + 1 = nI 0 from by decide]
      exact daysS rec5 d 0 2147483648 (by omega) (by omega) (by omega)
    · obtain ⟨mq, hmq⟩ : ∃ mq, ti / 1440 = mq + 1 := ⟨ti / 1440 - 1, by omega⟩
      rw [hmq, nI_pred]
      exact daysS rec5 (d - mq) mq _ (by omega) (by omega) (by rw [nI_toInt (by omega)]; omega)
  have trips : ∀ (mm x fu : Nat), x + mm = t → mm + 1 < fu → L_X9_findsRide_5 H (nI (m + 1)) (nI s) fu H 0 x = wrR H m t d i j := by
    intro mm
    induction mm with
    | zero =>
      intro x fu hx hf
      obtain ⟨fu, rfl⟩ : ∃ g, fu = g + 1 + 1 := ⟨fu - 2, by omega⟩
      obtain rfl : x = t := by omega
      rw [L_X9_findsRide_5_s]
      unfold B_X9_findsRide_5
      rw [e3, if_neg (fun z => by have := (nI_leI (by omega) (by omega)).mp z; omega), if_pos rfl, e22, allS, L_X9_findsRide_5_s]
      unfold B_X9_findsRide_5
      rw [if_neg (c := (1 : Int32) = 0) (by decide)]
      split <;> rfl
    | succ mm ih =>
      intro x fu hx hf
      obtain ⟨fu, rfl⟩ : ∃ g, fu = g + 1 := ⟨fu - 1, by omega⟩
      rw [L_X9_findsRide_5_s]
      unfold B_X9_findsRide_5
      rw [e3, if_neg (fun z => by have := (nI_leI (by omega) (by omega)).mp z; omega), if_pos rfl, e22, allN x _ (by omega) (fun d' a b => q7 x (by omega) d' a b)]
      exact ih (x + 1) fu (by omega) (by omega)
  exact trips t 0 _ (by omega) (by omega)
