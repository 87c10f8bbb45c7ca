/-! ===== own: reading over writing, frames (out of whole) ===== -/
theorem fi_fi (h : Hp) (k i : Nat) (v : Int32) (k' i' : Nat) : xFI (sFI h k i v) k' i' = if k' = k ∧ i' = i then v else xFI h k' i' := rfl
theorem fi_ai (h : Hp) (s i j : Nat) (v : Int32) (k' i' : Nat) : xFI (sAI h s i j v) k' i' = xFI h k' i' := rfl
theorem fi_put (h : Hp) (s i : Nat) (x v : Int32) (k' i' : Nat) : xFI (H_put h s i x v) k' i' = xFI h k' i' := rfl
theorem fi_fill (h : Hp) (s i : Nat) (v : Int32) (k' i' : Nat) : xFI (H_fill h s i v) k' i' = xFI h k' i' := rfl
theorem ai_fi (h : Hp) (k i : Nat) (v : Int32) (s i' j : Nat) : xAI (sFI h k i v) s i' j = xAI h s i' j := rfl
theorem ai_ai (h : Hp) (s i j : Nat) (v : Int32) (s' i' j' : Nat) : xAI (sAI h s i j v) s' i' j' = if s' = s ∧ i' = i ∧ j' = j then v else xAI h s' i' j' := rfl
theorem ai_fill (h : Hp) (s i : Nat) (v : Int32) (s' i' j' : Nat) : xAI (H_fill h s i v) s' i' j' = if s' = s ∧ i' = i ∧ j' < cy_ln h s then v else xAI h s' i' j' := rfl
theorem ln_at (h : Hp) {s : Nat} (hs : s ≠ 16) : cy_ln h s = cy_lens.getD s 0 := by unfold cy_ln; rw [if_neg hs]
theorem at_in (h : Hp) {s i j n : Nat} (hs : s ≠ 16) (hn : cy_lens.getD s 0 = n) (hj : j < n) (hm : n ≤ 3584) : F_at h s i (nI j) = xAI h s i j := by
  unfold F_at
  rw [if_neg (nI_pos (by omega)), ln_at h hs, hn, if_neg (fun q => by have := (nI_leI (by omega) (by omega)).mp q; omega), nI_clamp (by omega)]
theorem put_in (h : Hp) {s i j n : Nat} {v : Int32} (hs : s ≠ 16) (hn : cy_lens.getD s 0 = n) (hj : j < n) (hm : n ≤ 3584) : H_put h s i (nI j) v = sAI h s i j v := by
  unfold H_put A_put
  rw [if_neg (nI_pos (by omega)), ln_at h hs, hn, if_neg (fun q => by have := (nI_leI (by omega) (by omega)).mp q; omega), nI_clamp (by omega)]
  rfl
theorem okR_of {x : Int32} {a n : Nat} (h1 : a < 2147483648) (hn : n < 2147483648) (p : okR x (nI a) (nI n)) : ∃ k, x = nI k ∧ a ≤ k ∧ k ≤ n := by
  have h0 : ¬ x < 0 := fun q => p.1 (Int32.lt_of_lt_of_le q (Int32.not_lt.mp (nI_pos h1)))
  obtain ⟨j, hj, rfl⟩ := nI_of h0
  exact ⟨j, rfl, Nat.le_of_not_lt fun q => p.1 ((nI_ltI hj h1).mpr q), (nI_leI hj hn).mp p.2⟩
theorem okR_lt {x : Int32} {n : Nat} (hn : n < 2147483648) (hx : x.toInt < 2147483648) : okR x 0 (nI n - 1) ↔ ∃ k, k < n ∧ x = nI k := by
  constructor
  · intro p
    obtain ⟨j, hj, rfl⟩ := nI_of p.1
    refine ⟨j, ?_, rfl⟩
    have h2 := p.2
    rcases Nat.eq_zero_or_pos n with rfl | q
    · rw [Int32.le_iff_toInt_le, nI_toInt hj] at h2
      have : (nI 0 - 1 : Int32).toInt = -1 := by decide
      omega
    · obtain ⟨k, rfl⟩ : ∃ k, n = k + 1 := ⟨n - 1, by omega⟩
      rw [nI_pred] at h2
      have := (nI_leI hj (by omega)).mp h2
      omega
  · rintro ⟨k, hk, rfl⟩
    obtain ⟨m, rfl⟩ : ∃ m, n = m + 1 := ⟨n - 1, by omega⟩
    rw [nI_pred]
    exact ⟨nI_pos (by omega), (nI_leI (by omega) (by omega)).mpr (by omega)⟩
theorem nI_inj {a b : Nat} (ha : a < 2147483648) (hb : b < 2147483648) (h : nI a = nI b) : a = b := by
  have := congrArg Int32.toInt h
  rw [nI_toInt ha, nI_toInt hb] at this
  omega
theorem CN.sr {h h' : Hp} (C : CN h) (x : SR h h') : CN h' := by rw [x.eqv]; exact C
theorem okS_iff {h : Hp} {n0 : Nat} (h4 : xFI h 403 0 = nI n0) (hn : n0 ≤ 10) {a : Int32} : okS h a ↔ ∃ k, k < n0 ∧ a = nI k := by
  constructor
  · intro p
    obtain ⟨j, hj, rfl⟩ := nI_of p.1
    have := p.2
    rw [h4] at this
    exact ⟨j, (nI_ltI hj (by omega)).mp this, rfl⟩
  · rintro ⟨k, hk, rfl⟩
    exact ⟨nI_pos (by omega), by rw [h4]; exact (nI_ltI (by omega) (by omega)).mpr hk⟩
theorem okT_iff {h : Hp} (W : CW h) {a : Int32} : okT h a ↔ ∃ k, k < xLS h 11 ∧ a = nI k := by
  have := W.t20
  constructor
  · intro p
    obtain ⟨j, hj, rfl⟩ := nI_of p.1
    exact ⟨j, (nI_ltI hj (by omega)).mp p.2, rfl⟩
  · rintro ⟨k, hk, rfl⟩
    exact ⟨nI_pos (by omega), (nI_ltI (by omega) (by omega)).mpr hk⟩
theorem okB_iff {h : Hp} (W : CW h) {a : Int32} : okB h a ↔ ∃ k, k < xLS h 12 ∧ a = nI k := by
  have := W.b30
  constructor
  · intro p
    obtain ⟨j, hj, rfl⟩ := nI_of p.1
    exact ⟨j, (nI_ltI hj (by omega)).mp p.2, rfl⟩
  · rintro ⟨k, hk, rfl⟩
    exact ⟨nI_pos (by omega), (nI_ltI (by omega) (by omega)).mpr hk⟩
theorem ix10 (i j : Nat) : nI i * 10 + nI j = nI (10 * i + j) := by
  rw [show (10 : Int32) = nI 10 from rfl, nI_mul, nI_add, Nat.mul_comm]
theorem xi10 (i j : Nat) : 10 * nI i + nI j = nI (10 * i + j) := by
  rw [show (10 : Int32) = nI 10 from rfl, nI_mul, nI_add]
theorem up_two (k a b i : Nat) (x z : Int32) : (if k = k ∧ 0 = 0 ∧ i = a then x else if k = k ∧ 0 = 0 ∧ i = b then x else z) = if i = a ∨ i = b then x else z := by
  by_cases h1 : i = a
  · rw [if_pos ⟨rfl, rfl, h1⟩, if_pos (.inl h1)]
  · rw [if_neg (fun q => h1 q.2.2)]
    by_cases h2 : i = b
    · rw [if_pos ⟨rfl, rfl, h2⟩, if_pos (.inr h2)]
    · rw [if_neg (fun q => h2 q.2.2), if_neg (fun q => q.elim h1 h2)]
theorem Chn.mem {fr : Nat → Nat → Option Nat} {n : Nat} : ∀ {R : List Nat} {o : Option Nat}, Chn fr n o R → ∀ r, r ∈ R → ∃ t, fr 500 r = some t ∧ t < n := by
  intro R
  induction R with
  | nil => intro o _ r hr; cases hr
  | cons a R ih =>
    intro o hc r hr
    obtain ⟨_, h2, h3⟩ := hc
    rcases List.mem_cons.mp hr with rfl | hr
    · exact h2
    · exact ih h3 r hr
theorem tr_lt {h : Hp} (W : CW h) {b : Nat} (hb : b < xLS h 12) {r : Nat} (hr : r ∈ rls h (bj h b)) : tr h r < xLS h 11 := by
  obtain ⟨t, e, lt⟩ := (W.jc hb).mem r hr
  unfold tr
  rw [e]
  exact lt
theorem gb_spec {h : Hp} {j t : Nat} {dy : Int32} (R0 : List Nat) : ∀ (R : List Nat), (L_X2_goesBy_5 h j R0 t dy R = 1 ∧ ∃ r, r ∈ R ∧ xFI h 800 (tr h r) = xFI h 800 t ∧ (dy = -1 ∨ xFI h 501 r = dy)) ∨ (L_X2_goesBy_5 h j R0 t dy R = 0 ∧ ∀ r, r ∈ R → ¬ (xFI h 800 (tr h r) = xFI h 800 t ∧ (dy = -1 ∨ xFI h 501 r = dy))) := by
  intro R
  induction R with
  | nil => exact .inr ⟨rfl, fun r hr => by cases hr⟩
  | cons r R ih =>
    rw [L_X2_goesBy_5_s]
    unfold B_X2_goesBy_5
    have late : ¬ (xFI h 800 (tr h r) = xFI h 800 t ∧ (dy = -1 ∨ xFI h 501 r = dy)) → ((L_X2_goesBy_5 h j R0 t dy R = 1 ∧ ∃ r', r' ∈ r :: R ∧ xFI h 800 (tr h r') = xFI h 800 t ∧ (dy = -1 ∨ xFI h 501 r' = dy)) ∨ (L_X2_goesBy_5 h j R0 t dy R = 0 ∧ ∀ r', r' ∈ r :: R → ¬ (xFI h 800 (tr h r') = xFI h 800 t ∧ (dy = -1 ∨ xFI h 501 r' = dy)))) := by
      intro hn
      rcases ih with ⟨e, r', hr', q⟩ | ⟨e, q⟩
      · exact .inl ⟨e, r', List.mem_cons_of_mem _ hr', q⟩
      · exact .inr ⟨e, fun r' hr' => by
          rcases List.mem_cons.mp hr' with rfl | hr'
          · exact hn
          · exact q r' hr'⟩
    by_cases h1 : xFI h 800 (tr h r) = xFI h 800 t
    · rw [if_pos h1]
      by_cases h2 : dy = -1
      · rw [if_pos h2]; exact .inl ⟨rfl, r, List.mem_cons_self, h1, .inl h2⟩
      · rw [if_neg h2]
        by_cases h3 : xFI h 501 r = dy
        · rw [if_pos h3]; exact .inl ⟨rfl, r, List.mem_cons_self, h1, .inr h3⟩
        · rw [if_neg h3]
          exact late (fun q => q.2.elim h2 h3)
    · rw [if_neg h1]
      exact late (fun q => h1 q.1)
theorem fa_or (a b : Nat) : nI a ||| nI b = nI (a ||| b) := by
  apply Int32.toBitVec_inj.1
  show BitVec.ofNat 32 a ||| BitVec.ofNat 32 b = BitVec.ofNat 32 (a ||| b)
  apply BitVec.eq_of_getLsbD_eq
  intro i hi
  simp [hi]
theorem or_add {a k : Nat} (h : a < 2 ^ k) : nI a ||| nI (2 ^ k) = nI a + nI (2 ^ k) := by
  rw [fa_or, nI_add, Nat.or_comm]
  have := Nat.two_pow_add_eq_or_of_lt h 1
  rw [Nat.mul_one] at this
  rw [← this, Nat.add_comm]
theorem shl1 : ∀ i : Nat, i < 30 → (1 : Int32) <<< (nI i &&& 31) = nI (2 ^ i) := by decide +kernel
def FX (fs ss : List Nat) (h h' : Hp) : Prop := SR h h' ∧ (∀ f, f ∉ fs → ∀ i, xFI h' f i = xFI h f i) ∧ ∀ s, s ∉ ss → ∀ i j, xAI h' s i j = xAI h s i j
theorem FX.rf {fs ss : List Nat} {h : Hp} : FX fs ss h h := ⟨SR.rf, fun _ _ _ => rfl, fun _ _ _ _ => rfl⟩
theorem FX.trans {fs ss : List Nat} {a b c : Hp} (x : FX fs ss a b) (y : FX fs ss b c) : FX fs ss a c := ⟨x.1.trans y.1, fun f hf i => (y.2.1 f hf i).trans (x.2.1 f hf i), fun s hs i j => (y.2.2 s hs i j).trans (x.2.2 s hs i j)⟩
theorem FX.sfi {fs ss : List Nat} {h : Hp} {k i : Nat} {v : Int32} (hk : k ∈ fs) : FX fs ss h (sFI h k i v) := ⟨⟨rfl, rfl⟩, fun f hf i' => by rw [fi_fi, if_neg (fun q => hf (by rw [q.1]; exact hk))], fun _ _ _ _ => rfl⟩
theorem FX.sai {fs ss : List Nat} {h : Hp} {s i j : Nat} {v : Int32} (hs : s ∈ ss) : FX fs ss h (sAI h s i j v) := ⟨⟨rfl, rfl⟩, fun _ _ _ => rfl, fun s' hs' i' j' => by rw [ai_ai, if_neg (fun q => hs' (by rw [q.1]; exact hs))]⟩
theorem FX.fillx {fs ss : List Nat} {h : Hp} {s i : Nat} {v : Int32} (hs : s ∈ ss) : FX fs ss h (H_fill h s i v) := ⟨⟨rfl, rfl⟩, fun _ _ _ => rfl, fun s' hs' i' j' => by rw [ai_fill, if_neg (fun q => hs' (by rw [q.1]; exact hs))]⟩
theorem FX.mono {fs ss fs' ss' : List Nat} {h h' : Hp} (x : FX fs ss h h') (h1 : ∀ f, f ∈ fs → f ∈ fs') (h2 : ∀ s, s ∈ ss → s ∈ ss') : FX fs' ss' h h' := ⟨x.1, fun f hf => x.2.1 f (fun q => hf (h1 f q)), fun s hs => x.2.2 s (fun q => hs (h2 s q))⟩
theorem bk_cls {h : Hp} (W : CW h) {t : Nat} : ∀ (m i fu : Nat), i + m = xLS h 12 → m < fu →
    (L_X8_isBooked_2 h t fu i = 0 ∧ ∀ b, i ≤ b → b < xLS h 12 → ∀ r, r ∈ rls h (bj h b) → ¬ xFI h 800 (tr h r) = xFI h 800 t) ∨ (L_X8_isBooked_2 h t fu i = 1 ∧ ∃ b, i ≤ b ∧ b < xLS h 12 ∧ ∃ r, r ∈ rls h (bj h b) ∧ xFI h 800 (tr h r) = xFI h 800 t) := by
  have h30 := W.b30
  intro m
  induction m with
  | zero =>
    intro i fu hi hf
    obtain ⟨fu, rfl⟩ : ∃ g, fu = g + 1 := ⟨fu - 1, by omega⟩
    refine .inl ⟨?_, fun b h1 h2 => by omega⟩
    rw [L_X8_isBooked_2_s]
    unfold B_X8_isBooked_2
    rw [if_pos (nI_le (by omega) (by omega))]
  | succ m ih =>
    intro i fu hi hf
    obtain ⟨fu, rfl⟩ : ∃ g, fu = g + 1 := ⟨fu - 1, by omega⟩
    rw [L_X8_isBooked_2_s]
    unfold B_X8_isBooked_2 F_X2_goesBy
    rw [if_neg (fun q => by have := (nI_leI (by omega) (by omega)).mp q; omega)]
    rcases gb_spec (h := h) (j := bj h i) (t := t) (dy := -1) (rls h (bj h i)) (rls h (bj h i)) with ⟨e, r, hr, q, -⟩ | ⟨e, q⟩
    · rw [e, if_neg (by decide)]
      exact .inr ⟨rfl, i, Nat.le_refl _, by omega, r, hr, q⟩
    · rw [e, if_pos rfl]
      rcases ih (i + 1) fu (by omega) (by omega) with ⟨e2, q2⟩ | ⟨e2, b, b1, b2⟩
      · refine .inl ⟨e2, fun b h1 h2 r hr z => ?_⟩
        by_cases eb : b = i
        · subst eb; exact q r hr ⟨z, .inl rfl⟩
        · exact q2 b (by omega) h2 r hr z
      · exact .inr ⟨e2, b, by omega, b2⟩
theorem FX.putx {fs ss : List Nat} {h : Hp} {s i : Nat} {x v : Int32} (hs : s ∈ ss) : FX fs ss h (H_put h s i x v) := ⟨⟨rfl, rfl⟩, fun _ _ _ => rfl, fun s' hs' i' j' => by
  show A_put h s i x v s' i' j' = h.2.2.1 s' i' j'
  unfold A_put
  split
  · rfl
  · split
    · rfl
    · unfold up3
      rw [if_neg (fun q => hs' (by rw [q.1]; exact hs))]⟩
theorem up1_eq {α : Type} {f : Nat → α} {a : Nat} {v : α} : up1 f a v a = v := if_pos rfl
theorem up1_ne {α : Type} {f : Nat → α} {a x : Nat} {v : α} (h : x ≠ a) : up1 f a v x = f x := if_neg h
theorem nI_m1ne {w : Nat} (hw : w < 2147483648) : ¬ nI w = -1 := fun q => by
  have e := congrArg Int32.toInt q
  rw [nI_toInt hw] at e
  have e1 : (-1 : Int32).toInt = -1 := by decide
  omega
theorem nI_pos_lt {a b : Nat} (ha : a < 2147483648) (hb : b < 2147483648) (h : b ≤ a) : ¬ nI a < nI b := fun q => by
  have := (nI_ltI ha hb).mp q
  omega
theorem min_int2 (a b : Int32) : (if a ≤ b then a else b).toInt = min a.toInt b.toInt := by
  by_cases q : a ≤ b
  · rw [if_pos q]
    rw [Int32.le_iff_toInt_le] at q
    omega
  · rw [if_neg q]
    rw [Int32.le_iff_toInt_le] at q
    omega
theorem nI_m1 (m : Nat) : nI (m + 1) - 1 = nI m := nI_pred m
