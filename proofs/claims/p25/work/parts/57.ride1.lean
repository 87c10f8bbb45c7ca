/-! ===== own: the first ride (out of whole) ===== -/
theorem first_of {P : Nat → Prop} : ∀ n, P n → ∃ m, P m ∧ ∀ k, k < m → ¬ P k := by
  intro n
  induction n using Nat.strongRecOn with
  | _ n ih =>
    intro hn
    by_cases q : ∃ k, k < n ∧ P k
    · obtain ⟨k, hk, pk⟩ := q
      exact ih k hk pk
    · exact ⟨n, hn, fun k hk pk => q ⟨k, hk, pk⟩⟩
def IsR (h : Hp) (R E : Nat → Int) (s t d i j : Nat) : Prop := goN h t d ∧ i < j ∧ j < lnN h t ∧ stN h t j = s ∧ arI h t d j = E s ∧ R (stN h t i) ≤ dpI h t d i
def FR (h : Hp) (R E : Nat → Int) (fd ld s t d i j : Nat) : Prop := t < xLS h 11 ∧ fd ≤ d ∧ d ≤ ld ∧ IsR h R E s t d i j ∧ (∀ i', i' < i → ∀ j', ¬ IsR h R E s t d i' j') ∧ (∀ d', fd ≤ d' → d' < d → ∀ i' j', ¬ IsR h R E s t d' i' j') ∧
  ∀ t', t' < t → ∀ d', fd ≤ d' → d' ≤ ld → ∀ i' j', ¬ IsR h R E s t' d' i' j'
theorem FR.ex {h : Hp} {R E : Nat → Int} {fd ld s : Nat} (c : CandT h R fd ld (xLS h 11) s (E s)) : ∃ t d i j, FR h R E fd ld s t d i j := by
  obtain ⟨t0, d0, h1, h2, h3, h4, i0, j0, h5, h6, h7, h8, h9⟩ := c
  obtain ⟨t, ⟨ht, d1, hd1, hd2, i1, j1, q1⟩, nt⟩ := first_of (P := fun t => t < xLS h 11 ∧ ∃ d, fd ≤ d ∧ d ≤ ld ∧ ∃ i j, IsR h R E s t d i j) t0 ⟨h1, d0, h2, h3, i0, j0, h4, h5, h6, h8, h9, h7⟩
  obtain ⟨d, ⟨hd3, hd4, i2, j2, q2⟩, nd⟩ := first_of (P := fun d => fd ≤ d ∧ d ≤ ld ∧ ∃ i j, IsR h R E s t d i j) d1 ⟨hd1, hd2, i1, j1, q1⟩
  obtain ⟨i, ⟨j, q3⟩, ni⟩ := first_of (P := fun i => ∃ j, IsR h R E s t d i j) i2 ⟨j2, q2⟩
  exact ⟨t, d, i, j, ht, hd3, hd4, q3, fun i' hi' j' q => ni i' hi' ⟨j', q⟩, fun d' a b i' j' q => nd d' b ⟨a, by omega, i', j', q⟩, fun t' a d' b c i' j' q => nt t' a ⟨by omega, d', b, c, i', j', q⟩⟩
theorem ar_mono {h : Hp} {n0 t d : Nat} (w : World h n0) (ht : t < xLS h 11) (hd : d < 100) (hg : goN h t d) : ∀ q p, p ≠ 0 → p < q → q < lnN h t → arI h t d p < arI h t d q := by
  have har := ((w.2.2.2 t ht).2.2.2.2 d hd hg).2
  intro q
  induction q with
  | zero => intro p _ h2; exact absurd h2 (Nat.not_lt_zero _)
  | succ q ih =>
    intro p h1 h2 h3
    have a1 := har (q + 1) h3 (by omega)
    rw [Nat.add_sub_cancel] at a1
    by_cases e : p = q
    · subst e
      have a2 := har p (by omega) h1
      omega
    · have a2 := har q (by omega) (by omega)
      have := ih p h1 (by omega) (by omega)
      omega
theorem leaving_spec {h : Hp} {n0 t d s : Nat} {ar : Int32} (w : World h n0) (ht : t < xLS h 11) (hd : d < 100) (hg : goN h t d) (hs : s < n0) :
    (∀ j, j ≠ 0 → j < lnN h t → stN h t j = s → arI h t d j = ar.toInt → F_X5_leavingPlace h t (nI d) (nI s) ar = nI j) ∧ ((∀ j, j ≠ 0 → j < lnN h t → stN h t j = s → ¬ arI h t d j = ar.toInt) → F_X5_leavingPlace h t (nI d) (nI s) ar = -1) := by
  have h10 := w.1
  obtain ⟨l1, l6, el, hst, -⟩ := w.2.2.2 t ht
  have step : ∀ (p fu : Nat), p < lnN h t → (stN h t p = s → ¬ arI h t d p = ar.toInt) → L_X5_leavingPlace_3 h t (nI d) (nI s) ar (fu + 1) p = L_X5_leavingPlace_3 h t (nI d) (nI s) ar fu (p + 1) := by
    intro p fu hp hn
    rw [L_X5_leavingPlace_3_s]
    unfold B_X5_leavingPlace_3
    rw [el, if_neg (fun q => by have := (nI_leI (by omega) (by omega)).mp q; omega), (hst p hp).1]
    by_cases c : stN h t p = s
    · rw [if_pos (by rw [c]), if_neg (fun q => hn c (by unfold arI; rw [q]))]
    · rw [if_neg (fun q => c (nI_inj (by have := (hst p hp).2; omega) (by omega) q))]
  unfold F_X5_leavingPlace
  refine ⟨fun j hj0 hj e1 e2 => ?_, fun hn => ?_⟩
  · have key : ∀ (mm p fu : Nat), p + mm = j → p ≠ 0 → mm < fu → L_X5_leavingPlace_3 h t (nI d) (nI s) ar fu p = nI j := by
      intro mm
      induction mm with
      | zero =>
        intro p fu hp hp0 hf
        obtain ⟨fu, rfl⟩ : ∃ g, fu = g + 1 := ⟨fu - 1, by omega⟩
        obtain rfl : p = j := by omega
        rw [L_X5_leavingPlace_3_s]
        unfold B_X5_leavingPlace_3
        rw [el, if_neg (fun q => by have := (nI_leI (by omega) (by omega)).mp q; omega), (hst p hj).1, if_pos (by rw [e1]), if_pos (Int32.toInt_inj.mp e2)]
      | succ mm ih =>
        intro p fu hp hp0 hf
        obtain ⟨fu, rfl⟩ : ∃ g, fu = g + 1 := ⟨fu - 1, by omega⟩
        rw [step p fu (by omega) (fun _ q => by have := ar_mono w ht hd hg j p hp0 (by omega) hj; omega)]
        exact ih (p + 1) fu (by omega) (by omega) (by omega)
    exact key (j - 1) 1 _ (by omega) (by omega) (by omega)
  · have key : ∀ (mm p fu : Nat), p + mm = lnN h t → p ≠ 0 → mm < fu → L_X5_leavingPlace_3 h t (nI d) (nI s) ar fu p = -1 := by
      intro mm
      induction mm with
      | zero =>
        intro p fu hp hp0 hf
        obtain ⟨fu, rfl⟩ : ∃ g, fu = g + 1 := ⟨fu - 1, by omega⟩
        rw [L_X5_leavingPlace_3_s]
        unfold B_X5_leavingPlace_3
        rw [el, if_pos (nI_le (by omega) (by omega))]
      | succ mm ih =>
        intro p fu hp hp0 hf
        obtain ⟨fu, rfl⟩ : ∃ g, fu = g + 1 := ⟨fu - 1, by omega⟩
        rw [step p fu (by omega) (hn p hp0 (by omega))]
        exact ih (p + 1) fu (by omega) (by omega) (by omega)
    exact key (lnN h t - 1) 1 _ (by omega) (by omega) (by omega)
theorem boarding_spec {h : Hp} {n0 t d le m : Nat} (w : World h n0) (ht : t < xLS h 11) (hle : le < lnN h t) (hm : m < 4) :
    (∀ i, i < le → Rc h m (stN h t i) ≤ dpI h t d i → (∀ i', i' < i → ¬ Rc h m (stN h t i') ≤ dpI h t d i') → F_X5_boardingPlace h t (nI d) (nI le) (nI (m + 1)) = nI i) ∧ ((∀ i, i < le → ¬ Rc h m (stN h t i) ≤ dpI h t d i) → F_X5_boardingPlace h t (nI d) (nI le) (nI (m + 1)) = -1) := by
  have h10 := w.1
  obtain ⟨l1, l6, el, hst, -⟩ := w.2.2.2 t ht
  have step : ∀ (p fu : Nat), p < le → L_X5_boardingPlace_3 h t (nI d) (nI le) (nI (m + 1)) (fu + 1) p = if Rc h m (stN h t p) ≤ dpI h t d p then nI p else L_X5_boardingPlace_3 h t (nI d) (nI le) (nI (m + 1)) fu (p + 1) := by
    intro p fu hp
    have := (hst p (by omega)).2
    rw [L_X5_boardingPlace_3_s]
    unfold B_X5_boardingPlace_3
    rw [if_neg (c := nI le ≤ nI p) (fun q => by have := (nI_leI (by omega) (by omega)).mp q; omega), (hst p (by omega)).1, nI_pred, rdy_at h (by omega) (by omega)]
    by_cases c : F_X7_leaves h t (nI d) (nI p) < xAI h 21 0 (10 * m + stN h t p)
    · rw [if_pos c]
      rw [Int32.lt_iff_toInt_lt] at c
      rw [if_neg (fun q => by
        have q : (xAI h 21 0 (10 * m + stN h t p)).toInt ≤ (F_X7_leaves h t (nI d) (nI p)).toInt := q
        omega)]
    · rw [if_neg c]
      rw [Int32.lt_iff_toInt_lt] at c
      rw [if_pos (by
        show (xAI h 21 0 (10 * m + stN h t p)).toInt ≤ (F_X7_leaves h t (nI d) (nI p)).toInt
        omega)]
  unfold F_X5_boardingPlace
  refine ⟨fun i hi e1 e2 => ?_, fun hn => ?_⟩
  · have key : ∀ (mm p fu : Nat), p + mm = i → mm < fu → L_X5_boardingPlace_3 h t (nI d) (nI le) (nI (m + 1)) fu p = nI i := by
      intro mm
      induction mm with
      | zero =>
        intro p fu hp hf
        obtain ⟨fu, rfl⟩ : ∃ g, fu = g + 1 := ⟨fu - 1, by omega⟩
        obtain rfl : p = i := by omega
        rw [step p fu hi, if_pos e1]
      | succ mm ih =>
        intro p fu hp hf
        obtain ⟨fu, rfl⟩ : ∃ g, fu = g + 1 := ⟨fu - 1, by omega⟩
        rw [step p fu (by omega), if_neg (e2 p (by omega))]
        exact ih (p + 1) fu (by omega) (by omega)
    exact key i 0 _ (by omega) (by omega)
  · have key : ∀ (mm p fu : Nat), p + mm = le → mm < fu → L_X5_boardingPlace_3 h t (nI d) (nI le) (nI (m + 1)) fu p = -1 := by
      intro mm
      induction mm with
      | zero =>
        intro p fu hp hf
        obtain ⟨fu, rfl⟩ : ∃ g, fu = g + 1 := ⟨fu - 1, by omega⟩
        rw [L_X5_boardingPlace_3_s]
        unfold B_X5_boardingPlace_3
        rw [if_pos (nI_le (by omega) (by omega))]
      | succ mm ih =>
        intro p fu hp hf
        obtain ⟨fu, rfl⟩ : ∃ g, fu = g + 1 := ⟨fu - 1, by omega⟩
        rw [step p fu (by omega), if_neg (hn p (by omega))]
        exact ih (p + 1) fu (by omega) (by omega)
    exact key le 0 _ (by omega) (by omega)
def lvP (h : Hp) (t d : Nat) (s k : Int32) : Int32 := if F_X7_goes h t (nI d) = 0 then -1 else F_X5_leavingPlace h t (nI d) s (F_X5_arrivalAt h k s)
def bdP (h : Hp) (t d : Nat) (s k : Int32) : Int32 := if lvP h t d s k = -1 then -1 else F_X5_boardingPlace h t (nI d) (lvP h t d s k) k
theorem pick_some {h : Hp} {n0 t d s m i j : Nat} (w : World h n0) (ht : t < xLS h 11) (hd : d < 100) (hs : s < n0) (hm : m < 4) (q : IsR h (Rc h m) (Ec h (m + 1)) s t d i j) (hi : ∀ i', i' < i → ∀ j', ¬ IsR h (Rc h m) (Ec h (m + 1)) s t d i' j') :
    lvP h t d (nI s) (nI (m + 1)) = nI j ∧ bdP h t d (nI s) (nI (m + 1)) = nI i := by
  have h10 := w.1
  obtain ⟨q1, q2, q3, q4, q5, q6⟩ := q
  have e1 : lvP h t d (nI s) (nI (m + 1)) = nI j := by
    unfold lvP
    rw [if_neg q1, arr_at h (by omega) (by omega)]
    exact (leaving_spec w ht hd q1 hs).1 j (by omega) q3 q4 q5
  have hj6 := (w.2.2.2 t ht).2.1
  refine ⟨e1, ?_⟩
  unfold bdP
  rw [e1, if_neg (nI_m1ne (by omega))]
  exact (boarding_spec w ht q3 hm).1 i q2 q6 (fun i' hi' z => hi i' hi' j ⟨q1, by omega, q3, q4, q5, z⟩)
theorem pick_none {h : Hp} {n0 t d s m : Nat} (w : World h n0) (ht : t < xLS h 11) (hd : d < 100) (hs : s < n0) (hm : m < 4) (hn : ∀ i j, ¬ IsR h (Rc h m) (Ec h (m + 1)) s t d i j) : bdP h t d (nI s) (nI (m + 1)) = -1 := by
  have h10 := w.1
  unfold bdP
  by_cases c : lvP h t d (nI s) (nI (m + 1)) = -1
  · rw [if_pos c]
  · rw [if_neg c]
    by_cases g : F_X7_goes h t (nI d) = 0
    · exact absurd (by unfold lvP; rw [if_pos g]) c
    · have ex : ∃ j, j ≠ 0 ∧ j < lnN h t ∧ stN h t j = s ∧ arI h t d j = Ec h (m + 1) s := by
        refine Classical.byContradiction fun z => c ?_
        unfold lvP
        rw [if_neg g, arr_at h (by omega) (by omega)]
        exact (leaving_spec w ht hd g hs).2 (fun j hj hj2 e1 e2 => z ⟨j, hj, hj2, e1, e2⟩)
      obtain ⟨j, hj0, hj, e1, e2⟩ := ex
      have el : lvP h t d (nI s) (nI (m + 1)) = nI j := by
        unfold lvP
        rw [if_neg g, arr_at h (by omega) (by omega)]
        exact (leaving_spec w ht hd g hs).1 j hj0 hj e1 e2
      rw [el]
      exact (boarding_spec w ht hj hm).2 (fun i hi z => hn i j ⟨g, hi, hj, e1, e2, z⟩)
theorem rideTo_spec {h : Hp} {n0 t d s m i j fd ld : Nat} {o : Option Nat} (w : World h n0) (hs : s < n0) (hm : m < 4) (e6 : xFI h 606 0 = nI fd) (e7 : xFI h 607 0 = nI ld) (hfd : fd ≤ 1000) (hld : ld < 100) (q : FR h (Rc h m) (Ec h (m + 1)) fd ld s t d i j) :
    F_X5_rideTo h (nI s) (nI (m + 1)) o = (some (xCN h 5), F_X4_init (sNO h 5) (xCN h 5) t (nI d) (nI i) (nI j) o) := by
  have h20 := w.2.2.1
  obtain ⟨q1, q2, q3, q4, q5, q6, q7⟩ := q
  have dayB : ∀ (x dd fu : Nat) (rec3 : Nat → (Option Nat × Hp)), dd ≤ ld → L_X5_rideTo_41 h (nI s) (nI (m + 1)) o x rec3 (K_X5_rideTo_41 h (nI s) (nI (m + 1)) o x rec3) (fu + 1) (nI dd) =
      if bdP h x dd (nI s) (nI (m + 1)) = -1 then L_X5_rideTo_41 h (nI s) (nI (m + 1)) o x rec3 (K_X5_rideTo_41 h (nI s) (nI (m + 1)) o x rec3) fu (nI (dd + 1))
      else (some (xCN h 5), F_X4_init (sNO h 5) (xCN h 5) x (nI dd) (bdP h x dd (nI s) (nI (m + 1))) (lvP h x dd (nI s) (nI (m + 1))) o) := by
    intro x dd fu rec3 hdd
    rw [L_X5_rideTo_41_s]
    unfold B_X5_rideTo_41
    rw [e7, if_neg (nI_pos_lt (by omega) (by omega) hdd), if_neg (c := (100 : Int32) ≤ nI dd) (fun z => by have := (nI_leI (a := 100) (b := dd) (by decide) (by omega)).mp z; omega), show nI dd + 1 = nI (dd + 1) from nI_add dd 1]
    rfl
  have dayN : ∀ (x : Nat), x < xLS h 11 → ∀ (rec3 : Nat → (Option Nat × Hp)) (mm dd fu : Nat), (dd + mm = ld + 1 ∨ (ld < dd ∧ mm = 0)) → dd ≤ 1000 → mm < fu → (∀ d', dd ≤ d' → d' ≤ ld → ∀ i' j', ¬ IsR h (Rc h m) (Ec h (m + 1)) s x d' i' j') →
      L_X5_rideTo_41 h (nI s) (nI (m + 1)) o x rec3 (K_X5_rideTo_41 h (nI s) (nI (m + 1)) o x rec3) fu (nI dd) = rec3 (x + 1) := by
    intro x hx rec3 mm
    induction mm with
    | zero =>
      intro dd fu hdd h1000 hf hn
      obtain ⟨fu, rfl⟩ : ∃ g, fu = g + 1 := ⟨fu - 1, by omega⟩
      rw [L_X5_rideTo_41_s]
      unfold B_X5_rideTo_41 K_X5_rideTo_41
      rw [e7, if_pos (nI_lt (by omega) (by omega))]
    | succ mm ih =>
      intro dd fu hdd h1000 hf hn
      obtain ⟨fu, rfl⟩ : ∃ g, fu = g + 1 := ⟨fu - 1, by omega⟩
      rw [dayB x dd fu rec3 (by omega), if_pos (pick_none w hx (by omega) hs hm (hn dd (Nat.le_refl _) (by omega)))]
      exact ih (dd + 1) fu (by omega) (by omega) (by omega) (fun d' a b => hn d' (by omega) b)
  have dayS : ∀ (rec3 : Nat → (Option Nat × Hp)) (mm dd fu : Nat), dd + mm = d → fd ≤ dd → mm < fu →
      L_X5_rideTo_41 h (nI s) (nI (m + 1)) o t rec3 (K_X5_rideTo_41 h (nI s) (nI (m + 1)) o t rec3) fu (nI dd) = (some (xCN h 5), F_X4_init (sNO h 5) (xCN h 5) t (nI d) (nI i) (nI j) o) := by
    intro rec3 mm
    induction mm with
    | zero =>
      intro dd fu hdd hfd hf
      obtain ⟨fu, rfl⟩ : ∃ g, fu = g + 1 := ⟨fu - 1, by omega⟩
      obtain rfl : dd = d := by omega
      obtain ⟨p1, p2⟩ := pick_some w q1 (by omega) hs hm q4 q5
      have := q4.2.1
      have := q4.2.2.1
      have := (w.2.2.2 t q1).2.1
      rw [dayB t dd fu rec3 (by omega), p1, p2, if_neg (nI_m1ne (by omega))]
    | succ mm ih =>
      intro dd fu hdd hfd hf
      obtain ⟨fu, rfl⟩ : ∃ g, fu = g + 1 := ⟨fu - 1, by omega⟩
      rw [dayB t dd fu rec3 (by omega), if_pos (pick_none w q1 (by omega) hs hm (q6 dd hfd (by omega)))]
      exact ih (dd + 1) fu (by omega) (by omega) (by omega)
  have trips : ∀ (mm x fu : Nat), x + mm = t → mm < fu → L_X5_rideTo_3 h (nI s) (nI (m + 1)) o fu x = (some (xCN h 5), F_X4_init (sNO h 5) (xCN h 5) t (nI d) (nI i) (nI j) o) := by
    intro mm
    induction mm with
    | zero =>
      intro x fu hx hf
      obtain ⟨fu, rfl⟩ : ∃ g, fu = g + 1 := ⟨fu - 1, by omega⟩
      obtain rfl : x = t := by omega
      rw [L_X5_rideTo_3_s]
      unfold B_X5_rideTo_3
      rw [if_neg (fun z => by have := (nI_leI (by omega) (by omega)).mp z; omega), e6]
      exact dayS _ (d - fd) fd _ (by omega) (Nat.le_refl _) (by rw [nI_toInt (by omega)]; omega)
    | succ mm ih =>
      intro x fu hx hf
      obtain ⟨fu, rfl⟩ : ∃ g, fu = g + 1 := ⟨fu - 1, by omega⟩
      rw [L_X5_rideTo_3_s]
      unfold B_X5_rideTo_3
      rw [if_neg (fun z => by have := (nI_leI (by omega) (by omega)).mp z; omega), e6, dayN x (by omega) _ (ld + 1 - fd) fd _ (by omega) hfd (by rw [nI_toInt (by omega)]; omega) (fun d' a b => q7 x (by omega) d' a b)]
      exact ih (x + 1) fu (by omega) (by omega)
  exact trips t 0 _ (by omega) (by omega)
theorem IsR.j {h : Hp} {n0 s t d i j i' j' : Nat} {R E : Nat → Int} (w : World h n0) (ht : t < xLS h 11) (hd : d < 100) (q : IsR h R E s t d i j) (q' : IsR h R E s t d i' j') : j' = j := by
  obtain ⟨a1, a2, a3, a4, a5, a6⟩ := q
  obtain ⟨b1, b2, b3, b4, b5, b6⟩ := q'
  by_cases c : j' < j
  · have := ar_mono w ht hd a1 j j' (by omega) c a3
    omega
  · by_cases c2 : j < j'
    · have := ar_mono w ht hd a1 j' j (by omega) c2 b3
      omega
    · omega
