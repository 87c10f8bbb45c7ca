/-! ===== own: what holds of an object's heap stays when little changes ===== -/
theorem FX.fi {fs ss : List Nat} {h h' : Hp} (q : FX fs ss h h') {f : Nat} (hf : f ∉ fs) : xFI h' f = xFI h f := by
  funext i
  exact q.2.1 f hf i
theorem FX.ai {fs ss : List Nat} {h h' : Hp} (q : FX fs ss h h') {s : Nat} (hs : s ∉ ss) : xAI h' s = xAI h s := by
  funext i j
  exact q.2.2 s hs i j
theorem FX.ls {fs ss : List Nat} {h h' : Hp} (q : FX fs ss h h') : xLS h' = xLS h := congrArg (fun z => z.2.2.1) q.1.2
theorem TR.cg {h h' : Hp} {n k : Nat} (e800 : xFI h' 800 k = xFI h 800 k) (e802 : xFI h' 802 k = xFI h 802 k) (e803 : xFI h' 803 k = xFI h 803 k) (e810 : xFI h' 810 k = xFI h 810 k) (e811 : xFI h' 811 k = xFI h 811 k) (a28 : xAI h' 28 k = xAI h 28 k) (a29 : xAI h' 29 k = xAI h 29 k) (a30 : xAI h' 30 k = xAI h 30 k) (a32 : xAI h' 32 k = xAI h 32 k) (t : TR h n k) : TR h' n k := by
  have e : TR h' n k = TR h n k := by simp only [TR, TRow, TDay, TNot, e800, e802, e803, e810, e811, a28, a29, a30, a32]
  rw [e]
  exact t
theorem TR.fx {fs ss : List Nat} {h h' : Hp} {n k : Nat} (q : FX fs ss h h') (hf : ∀ f, f ∈ [800, 802, 803, 810, 811] → f ∉ fs) (hs : ∀ s, s ∈ [28, 29, 30, 32] → s ∉ ss) (t : TR h n k) : TR h' n k :=
  TR.cg (by rw [q.fi (hf 800 (by decide))]) (by rw [q.fi (hf 802 (by decide))]) (by rw [q.fi (hf 803 (by decide))]) (by rw [q.fi (hf 810 (by decide))]) (by rw [q.fi (hf 811 (by decide))]) (by rw [q.ai (hs 28 (by decide))]) (by rw [q.ai (hs 29 (by decide))]) (by rw [q.ai (hs 30 (by decide))]) (by rw [q.ai (hs 32 (by decide))]) t
theorem TR.mono {h : Hp} {n n' k : Nat} (hn : n ≤ n') (t : TR h n k) : TR h n' k := by
  obtain ⟨a1, a2, a3, ⟨len, st, lv, ar, r1, r2, r3, r4⟩, a5, a6⟩ := t
  exact ⟨a1, a2, a3, ⟨len, st, lv, ar, r1, r2, r3, fun p hp => ⟨(r4 p hp).1, Nat.lt_of_lt_of_le (r4 p hp).2.1 hn, (r4 p hp).2.2⟩⟩, a5, a6⟩
/-- what holds where only numbers change that it doesn't speak of -/
theorem RC.fx {fs ss : List Nat} {h h' : Hp} (q : FX fs ss h h') (hf : ∀ f, f ∈ [101, 403, 800, 802, 803, 810, 811] → f ∉ fs) (hs : ∀ s, s ∈ [22, 23, 24, 25, 26, 28, 29, 30, 32] → s ∉ ss) (R : RC h) : RC h' := by
  obtain ⟨⟨n, r1, r2⟩, r3, r4, r5⟩ := R
  have e403 := q.fi (hf 403 (by decide))
  have e101 := q.fi (hf 101 (by decide))
  have a22 := q.ai (hs 22 (by decide))
  have a23 := q.ai (hs 23 (by decide))
  have a24 := q.ai (hs 24 (by decide))
  have a25 := q.ai (hs 25 (by decide))
  have a26 := q.ai (hs 26 (by decide))
  refine ⟨⟨n, by unfold RStop; rw [e403, a22]; exact r1, fun t ht => ?_⟩, by unfold RWalk; rw [a23]; exact r3, by unfold PR; rw [a24, a25, a26]; exact r4, fun b hb => ?_⟩
  · rw [q.ls] at ht
    exact (r2 t ht).fx q (fun f hm => hf f (by revert hm; revert f; decide)) (fun s hm => hs s (by revert hm; revert s; decide))
  · rw [q.ls] at hb
    rw [e101]
    exact r5 b hb
/-- booking b holds a seat of the run: 1 -/
def ind (h : Hp) (t : Nat) (dy : Int32) (b : Nat) : Nat := if xFI h 103 b = 2 then 0 else if F_X2_goesBy h (bj h b) (rls h (bj h b)) t dy = 0 then 0 else 1
/-- how many of m bookings from i on hold a seat of the run -/
def cl (h : Hp) (t : Nat) (dy : Int32) : Nat → Nat → Nat
  | 0, _ => 0
  | m + 1, i => ind h t dy i + cl h t dy m (i + 1)
theorem ind_le (h : Hp) (t : Nat) (dy : Int32) (b : Nat) : ind h t dy b ≤ 1 := by
  unfold ind
  repeat' split
  all_goals omega
theorem cl_le (h : Hp) (t : Nat) (dy : Int32) : ∀ m i, cl h t dy m i ≤ m := by
  intro m
  induction m with
  | zero => intro i; exact Nat.le_refl _
  | succ m ih =>
    intro i
    have := ih (i + 1)
    have := ind_le h t dy i
    show ind h t dy i + cl h t dy m (i + 1) ≤ m + 1
    omega
theorem cl_mono {h h' : Hp} {t t' : Nat} {dy : Int32} : ∀ m i, (∀ b, i ≤ b → b < i + m → ind h' t' dy b ≤ ind h t dy b) → cl h' t' dy m i ≤ cl h t dy m i := by
  intro m
  induction m with
  | zero => intro i _; exact Nat.le_refl _
  | succ m ih =>
    intro i hb
    have h1 := ih (i + 1) (fun b h1 h2 => hb b (by omega) (by omega))
    have h2 := hb i (Nat.le_refl _) (by omega)
    show ind h' t' dy i + cl h' t' dy m (i + 1) ≤ ind h t dy i + cl h t dy m (i + 1)
    omega
theorem cl_last (h : Hp) (t : Nat) (dy : Int32) : ∀ m i, cl h t dy (m + 1) i = cl h t dy m i + ind h t dy (i + m) := by
  intro m
  induction m with
  | zero => intro i; show ind h t dy i + 0 = 0 + ind h t dy (i + 0); rw [Nat.add_zero, Nat.zero_add, Nat.add_zero]
  | succ m ih =>
    intro i
    have h1 := ih (i + 1)
    show ind h t dy i + cl h t dy (m + 1) (i + 1) = (ind h t dy i + cl h t dy m (i + 1)) + ind h t dy (i + (m + 1))
    rw [h1, show i + 1 + m = i + (m + 1) by omega]
    omega
theorem free_loop {h : Hp} (hb : xLS h 12 ≤ 30) (t : Nat) (dy : Int32) : ∀ (m i fu : Nat) (fr : Int32), i + m = xLS h 12 → m < fu → (m : Int) - 1000 ≤ fr.toInt ∧ fr.toInt ≤ 100 → (L_X8_freeSeats_8 h t dy fu fr i).toInt = fr.toInt - (cl h t dy m i : Nat) := by
  intro m
  induction m with
  | zero =>
    intro i fu fr hi hf hr
    obtain ⟨fu, rfl⟩ : ∃ g, fu = g + 1 := ⟨fu - 1, by omega⟩
    rw [L_X8_freeSeats_8_s]
    unfold B_X8_freeSeats_8
    rw [if_pos (by rw [← hi, Nat.add_zero]; exact Int32.le_refl _)]
    show fr.toInt = fr.toInt - ((0 : Nat) : Int)
    omega
  | succ m ih =>
    intro i fu fr hi hf hr
    obtain ⟨fu, rfl⟩ : ∃ g, fu = g + 1 := ⟨fu - 1, by omega⟩
    rw [L_X8_freeSeats_8_s]
    unfold B_X8_freeSeats_8
    rw [if_neg (fun z => by have := (nI_leI (by omega) (by omega)).mp z; omega)]
    show _ = fr.toInt - ((ind h t dy i + cl h t dy m (i + 1) : Nat) : Int)
    unfold ind
    by_cases c1 : xFI h 103 i = 2
    · rw [if_pos c1, if_pos c1, ih (i + 1) fu fr (by omega) (by omega) (by omega)]
      omega
    · rw [if_neg c1, if_neg c1]
      by_cases c2 : F_X2_goesBy h (bj h i) (rls h (bj h i)) t dy = 0
      · rw [if_pos c2, if_pos c2, ih (i + 1) fu fr (by omega) (by omega) (by omega)]
        omega
      · rw [if_neg c2, if_neg c2]
        have e1 : (-1 : Int32).toInt = -1 := by decide
        have e2 : (fr + (-1)).toInt = fr.toInt + (-1 : Int32).toInt := add_int (by omega) (by omega)
        rw [ih (i + 1) fu (fr + (-1)) (by omega) (by omega) (by omega), e2, e1]
        omega
theorem free_spec {h : Hp} (hb : xLS h 12 ≤ 30) {t s : Nat} {dy : Int32} (hs : xFI h 803 t = nI s) (h100 : s ≤ 100) : (F_X8_freeSeats h t dy).toInt = (s : Int) - (cl h t dy (xLS h 12) 0 : Nat) := by
  unfold F_X8_freeSeats
  rw [free_loop hb t dy (xLS h 12) 0 _ _ (by omega) (by omega) (by rw [hs, nI_toInt (by omega)]; omega), hs, nI_toInt (by omega)]
/-- no run has more seats booked than there are -/
def SI (h : Hp) : Prop := ∀ t, t < xLS h 11 → ∀ d, d < 100 → 0 ≤ (F_X8_freeSeats h t (nI d)).toInt
/-- what holds at every call of the law, and what its row tells -/
def IV (h : Hp) (D : Nat → Int32) : Prop := LQ h ∧ RC h ∧ SI h ∧ D 0 = xFI h 403 0 ∧ D 1 = nI (xLS h 11) ∧ D 2 = nI (xLS h 12) ∧ ∀ t, t < xLS h 11 → D (3 + t) = xFI h 803 t ∧ D (23 + t) = xFI h 810 t
theorem gb_cg {h h' : Hp} (s : SR h h') (e800 : xFI h' 800 = xFI h 800) (e501 : xFI h' 501 = xFI h 501) (j : Nat) (R : List Nat) (t : Nat) (dy : Int32) : F_X2_goesBy h' j R t dy = F_X2_goesBy h j R t dy := by
  have et : ∀ r, tr h' r = tr h r := fun r => by unfold tr; rw [show xFR h' = xFR h from s.1]
  have key : ∀ Q : List Nat, L_X2_goesBy_5 h' j R t dy Q = L_X2_goesBy_5 h j R t dy Q := by
    intro Q
    induction Q with
    | nil => rfl
    | cons r Q ih =>
      rw [L_X2_goesBy_5_s, L_X2_goesBy_5_s, ih]
      unfold B_X2_goesBy_5
      rw [et, e800, e501]
  exact key R
theorem bj_sr {h h' : Hp} (s : SR h h') (b : Nat) : bj h' b = bj h b := by unfold bj; rw [show xFR h' = xFR h from s.1]
theorem rls_sr {h h' : Hp} (s : SR h h') (j : Nat) : rls h' j = rls h j := by unfold rls; rw [show xFR h' = xFR h from s.1]
theorem ind_cg {h h' : Hp} (s : SR h h') (e800 : xFI h' 800 = xFI h 800) (e501 : xFI h' 501 = xFI h 501) {t b : Nat} {dy : Int32} (e : (xFI h' 103 b = 2) ↔ (xFI h 103 b = 2)) : ind h' t dy b = ind h t dy b := by
  unfold ind
  rw [bj_sr s, rls_sr s, gb_cg s e800 e501]
  by_cases c : xFI h 103 b = 2
  · rw [if_pos c, if_pos (e.mpr c)]
  · rw [if_neg c, if_neg (fun q => c (e.mp q))]
theorem cl_cg {h h' : Hp} {t : Nat} {dy : Int32} : ∀ m i, (∀ b, i ≤ b → b < i + m → ind h' t dy b = ind h t dy b) → cl h' t dy m i = cl h t dy m i := by
  intro m
  induction m with
  | zero => intro i _; rfl
  | succ m ih =>
    intro i hb
    show ind h' t dy i + cl h' t dy m (i + 1) = ind h t dy i + cl h t dy m (i + 1)
    rw [hb i (Nat.le_refl _) (by omega), ih (i + 1) (fun b h1 h2 => hb b (by omega) (by omega))]
theorem RC.seats {h : Hp} (R : RC h) {t : Nat} (ht : t < xLS h 11) : ∃ k : Nat, 1 ≤ k ∧ k ≤ 100 ∧ xFI h 803 t = nI k := by
  obtain ⟨⟨n, -, r⟩, -⟩ := R
  exact (r t ht).2.2.1
/-- seats, where states change by other than dropping, or only drop -/
theorem SI.cg {h h' : Hp} (W : CW h) (R : RC h) (s : SR h h') (e800 : xFI h' 800 = xFI h 800) (e501 : xFI h' 501 = xFI h 501) (e803 : xFI h' 803 = xFI h 803) (e : ∀ b, b < xLS h 12 → xFI h 103 b = 2 → xFI h' 103 b = 2) (q : SI h) : SI h' := by
  intro t ht d hd
  have eL : xLS h' = xLS h := congrArg (fun z => z.2.2.1) s.2
  rw [eL] at ht
  obtain ⟨k, k1, k2, k3⟩ := R.seats ht
  have h1 := q t ht d hd
  rw [free_spec W.b30 k3 k2] at h1
  rw [free_spec (by rw [eL]; exact W.b30) (by rw [e803]; exact k3) k2, eL]
  have := cl_mono (h := h) (h' := h') (t := t) (t' := t) (dy := nI d) (xLS h 12) 0 (fun b _ hb => by
    unfold ind
    rw [bj_sr s, rls_sr s, gb_cg s e800 e501]
    by_cases c : xFI h' 103 b = 2
    · rw [if_pos c]; exact Nat.zero_le _
    · rw [if_neg c, if_neg (fun z => c (e b (by omega) z))]
      exact Nat.le_refl _)
  omega
