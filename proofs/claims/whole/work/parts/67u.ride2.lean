/-! ===== own: the class finds the first ride ===== -/
/-- where the class boards on a day, where it leaves -/
def lvP (h : Hp) (t d : Nat) (s k : Int32) : Int32 := if F_X7_goes h t (nI d) = 0 then -1 else F_X5_leavingPlace h t (nI d) s (F_X5_arrivalAt h k s)
def bdP (h : Hp) (t d : Nat) (s k : Int32) : Int32 := if lvP h t d s k = -1 then -1 else F_X5_boardingPlace h t (nI d) (lvP h t d s k) k
theorem pick_some {h : Hp} {n0 t d s m i j : Nat} (w : World h n0) (ht : t < xLS h 11) (hd : d < 100) (hs : s < n0) (hm : m < 4) (q : IsR h (Rc h m) (Ec h (m + 1)) s t d i j) (hi : ∀ i', i' < i → ∀ j', ¬ IsR h (Rc h m) (Ec h (m + 1)) s t d i' j') :
    lvP h t d (nI s) (nI (m + 1)) = nI j ∧ bdP h t d (nI s) (nI (m + 1)) = nI i := by
  have h10 := w.1
  obtain ⟨q1, q2, q3, q4, q5, q6⟩ := q
  have e1 : lvP h t d (nI s) (nI (m + 1)) = nI j := by
    unfold lvP
    rw [if_neg q1, arr_at h (by omega) (by omega)]
    exact (leaving_spec w ht hd q1 hs).1 j (by omega) q3 q4 q5
  have hj6 := (w.2.2.2 t ht).2.1
  refine ⟨e1, ?_⟩
  unfold bdP
  rw [e1, if_neg (nI_m1ne (by omega))]
  exact (boarding_spec w ht q3 hm).1 i q2 q6 (fun i' hi' z => hi i' hi' j ⟨q1, by omega, q3, q4, q5, z⟩)
theorem pick_none {h : Hp} {n0 t d s m : Nat} (w : World h n0) (ht : t < xLS h 11) (hd : d < 100) (hs : s < n0) (hm : m < 4) (hn : ∀ i j, ¬ IsR h (Rc h m) (Ec h (m + 1)) s t d i j) : bdP h t d (nI s) (nI (m + 1)) = -1 := by
  have h10 := w.1
  unfold bdP
  by_cases c : lvP h t d (nI s) (nI (m + 1)) = -1
  · rw [if_pos c]
  · rw [if_neg c]
    by_cases g : F_X7_goes h t (nI d) = 0
    · exact absurd (by unfold lvP; rw [if_pos g]) c
    · have ex : ∃ j, j ≠ 0 ∧ j < lnN h t ∧ stN h t j = s ∧ arI h t d j = Ec h (m + 1) s := by
        refine Classical.byContradiction fun z => c ?_
        unfold lvP
        rw [if_neg g, arr_at h (by omega) (by omega)]
        exact (leaving_spec w ht hd g hs).2 (fun j hj hj2 e1 e2 => z ⟨j, hj, hj2, e1, e2⟩)
      obtain ⟨j, hj0, hj, e1, e2⟩ := ex
      have el : lvP h t d (nI s) (nI (m + 1)) = nI j := by
        unfold lvP
        rw [if_neg g, arr_at h (by omega) (by omega)]
        exact (leaving_spec w ht hd g hs).1 j hj0 hj e1 e2
      rw [el]
      exact (boarding_spec w ht hj hm).2 (fun i hi z => hn i j ⟨g, hi, hj, e1, e2, z⟩)
theorem rideTo_spec {h : Hp} {n0 t d s m i j fd ld : Nat} {o : Option Nat} (w : World h n0) (hs : s < n0) (hm : m < 4) (e6 : xFI h 606 0 = nI fd) (e7 : xFI h 607 0 = nI ld) (hfd : fd ≤ 1000) (hld : ld < 100) (q : FR h (Rc h m) (Ec h (m + 1)) fd ld s t d i j) :
    F_X5_rideTo h (nI s) (nI (m + 1)) o = (some (xCN h 5), F_X4_init (sNO h 5) (xCN h 5) t (nI d) (nI i) (nI j) o) := by
  have h20 := w.2.2.1
  obtain ⟨q1, q2, q3, q4, q5, q6, q7⟩ := q
  have dayB : ∀ (x dd fu : Nat) (rec3 : Nat → (Option Nat × Hp)), dd ≤ ld → L_X5_rideTo_41 h (nI s) (nI (m + 1)) o x rec3 (K_X5_rideTo_41 h (nI s) (nI (m + 1)) o x rec3) (fu + 1) (nI dd) =
      if bdP h x dd (nI s) (nI (m + 1)) = -1 then L_X5_rideTo_41 h (nI s) (nI (m + 1)) o x rec3 (K_X5_rideTo_41 h (nI s) (nI (m + 1)) o x rec3) fu (nI (dd + 1))
      else (some (xCN h 5), F_X4_init (sNO h 5) (xCN h 5) x (nI dd) (bdP h x dd (nI s) (nI (m + 1))) (lvP h x dd (nI s) (nI (m + 1))) o) := by
    intro x dd fu rec3 hdd
    rw [L_X5_rideTo_41_s]
    unfold B_X5_rideTo_41
    rw [e7, if_neg (nI_pos_lt (by omega) (by omega) hdd), if_neg (c := (100 : Int32) ≤ nI dd) (fun z => by have := (nI_leI (a := 100) (b := dd) (by decide) (by omega)).mp z; omega), show nI dd + 1 = nI (dd + 1) from nI_add dd 1]
    rfl
  have dayN : ∀ (x : Nat), x < xLS h 11 → ∀ (rec3 : Nat → (Option Nat × Hp)) (mm dd fu : Nat), (dd + mm = ld + 1 ∨ (ld < dd ∧ mm = 0)) → dd ≤ 1000 → mm < fu → (∀ d', dd ≤ d' → d' ≤ ld → ∀ i' j', ¬ IsR h (Rc h m) (Ec h (m + 1)) s x d' i' j') →
      L_X5_rideTo_41 h (nI s) (nI (m + 1)) o x rec3 (K_X5_rideTo_41 h (nI s) (nI (m + 1)) o x rec3) fu (nI dd) = rec3 (x + 1) := by
    intro x hx rec3 mm
    induction mm with
    | zero =>
      intro dd fu hdd h1000 hf hn
      obtain ⟨fu, rfl⟩ : ∃ g, fu = g + 1 := ⟨fu - 1, by omega⟩
      rw [L_X5_rideTo_41_s]
      unfold B_X5_rideTo_41 K_X5_rideTo_41
      rw [e7, if_pos (nI_lt (by omega) (by omega))]
    | succ mm ih =>
      intro dd fu hdd h1000 hf hn
      obtain ⟨fu, rfl⟩ : ∃ g, fu = g + 1 := ⟨fu - 1, by omega⟩
      rw [dayB x dd fu rec3 (by omega), if_pos (pick_none w hx (by omega) hs hm (hn dd (Nat.le_refl _) (by omega)))]
      exact ih (dd + 1) fu (by omega) (by omega) (by omega) (fun d' a b => hn d' (by omega) b)
  have dayS : ∀ (rec3 : Nat → (Option Nat × Hp)) (mm dd fu : Nat), dd + mm = d → fd ≤ dd → mm < fu →
      L_X5_rideTo_41 h (nI s) (nI (m + 1)) o t rec3 (K_X5_rideTo_41 h (nI s) (nI (m + 1)) o t rec3) fu (nI dd) = (some (xCN h 5), F_X4_init (sNO h 5) (xCN h 5) t (nI d) (nI i) (nI j) o) := by
    intro rec3 mm
    induction mm with
    | zero =>
      intro dd fu hdd hfd hf
      obtain ⟨fu, rfl⟩ : ∃ g, fu = g + 1 := ⟨fu - 1, by omega⟩
      obtain rfl : dd = d := by omega
      obtain ⟨p1, p2⟩ := pick_some w q1 (by omega) hs hm q4 q5
      have := q4.2.1
      have := q4.2.2.1
      have := (w.2.2.2 t q1).2.1
      rw [dayB t dd fu rec3 (by omega), p1, p2, if_neg (nI_m1ne (by omega))]
    | succ mm ih =>
      intro dd fu hdd hfd hf
      obtain ⟨fu, rfl⟩ : ∃ g, fu = g + 1 := ⟨fu - 1, by omega⟩
      rw [dayB t dd fu rec3 (by omega), if_pos (pick_none w q1 (by omega) hs hm (q6 dd hfd (by omega)))]
      exact ih (dd + 1) fu (by omega) (by omega) (by omega)
  have trips : ∀ (mm x fu : Nat), x + mm = t → mm < fu → L_X5_rideTo_3 h (nI s) (nI (m + 1)) o fu x = (some (xCN h 5), F_X4_init (sNO h 5) (xCN h 5) t (nI d) (nI i) (nI j) o) := by
    intro mm
    induction mm with
    | zero =>
      intro x fu hx hf
      obtain ⟨fu, rfl⟩ : ∃ g, fu = g + 1 := ⟨fu - 1, by omega⟩
      obtain rfl : x = t := by omega
      rw [L_X5_rideTo_3_s]
      unfold B_X5_rideTo_3
      rw [if_neg (fun z => by have := (nI_leI (by omega) (by omega)).mp z; omega), e6]
      exact dayS _ (d - fd) fd _ (by omega) (Nat.le_refl _) (by rw [nI_toInt (by omega)]; omega)
    | succ mm ih =>
      intro x fu hx hf
      obtain ⟨fu, rfl⟩ : ∃ g, fu = g + 1 := ⟨fu - 1, by omega⟩
      rw [L_X5_rideTo_3_s]
      unfold B_X5_rideTo_3
      rw [if_neg (fun z => by have := (nI_leI (by omega) (by omega)).mp z; omega), e6, dayN x (by omega) _ (ld + 1 - fd) fd _ (by omega) hfd (by rw [nI_toInt (by omega)]; omega) (fun d' a b => q7 x (by omega) d' a b)]
      exact ih (x + 1) fu (by omega) (by omega)
  exact trips t 0 _ (by omega) (by omega)
