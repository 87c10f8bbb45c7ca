/-! ===== own: changing (out of whole) ===== -/
theorem LO.top {N : Int} {Q : Int → Prop} {v : Int} (l : LO N Q v) (hb : ∀ a, Q a → a < N) : min v N = v := by
  rcases l with ⟨e, _⟩ | ⟨q, _⟩
  · omega
  · have := hb v q
    omega
theorem LO.add {N : Int} {Q Q' : Int → Prop} {v x : Int} (l : LO N Q v) (hx : x < N) (hQ : ∀ a, Q' a ↔ (Q a ∨ a = x)) (hb : ∀ a, Q a → a < N) : LO N Q' (min v x) := by
  rcases l with ⟨e, z⟩ | ⟨q, z⟩
  · have e1 : min v x = x := by omega
    rw [e1]
    refine .inr ⟨(hQ x).mpr (.inr rfl), fun a qa => ?_⟩
    rcases (hQ a).mp qa with y | y
    · exact absurd y (z a)
    · omega
  · by_cases c : v ≤ x
    · have e1 : min v x = v := by omega
      rw [e1]
      refine .inr ⟨(hQ v).mpr (.inl q), fun a qa => ?_⟩
      rcases (hQ a).mp qa with y | y
      · exact z a y
      · omega
    · have e1 : min v x = x := by omega
      rw [e1]
      refine .inr ⟨(hQ x).mpr (.inr rfl), fun a qa => ?_⟩
      rcases (hQ a).mp qa with y | y
      · have := z a y
        omega
      · omega
def chI (h : Hp) (a s : Nat) : Int32 := if a = s then xAI h 22 0 s else xAI h 23 0 (10 * a + s)
def Rdy (h : Hp) (n0 : Nat) (E : Nat → Int) (s : Nat) (v : Int) : Prop := ∃ a, a < n0 ∧ E a < 1000000000 ∧ ¬ chI h a s = -1 ∧ v = E a + (chI h a s).toInt
theorem chg_at (h : Hp) {a s : Nat} (ha : a < 10) (hs : s < 10) : F_X5_changing h (nI a) (nI s) = chI h a s := by
  unfold F_X5_changing chI F_X3_transferAt F_X3_walk
  by_cases c : a = s
  · rw [if_pos (by rw [c]), if_pos c, at_in h (n := 10) (by decide) rfl hs (by decide)]
  · rw [if_neg (fun q => c (nI_inj (by omega) (by omega) q)), if_neg c, ix10, at_in h (n := 100) (by decide) rfl (by omega) (by decide)]
theorem N9 : (1000000000 : Int32).toInt = 1000000000 := by decide
theorem add_int {a b : Int32} (ha : -1000000000 ≤ a.toInt ∧ a.toInt ≤ 1000000000) (hb : -1000000000 ≤ b.toInt ∧ b.toInt ≤ 1000000000) : (a + b).toInt = a.toInt + b.toInt := by
  rw [Int32.toInt_add]
  refine Int.bmod_eq_of_le ?_ ?_ <;> omega
def Small (h : Hp) (n0 : Nat) : Prop := ∀ a s, a < n0 → s < n0 → chI h a s = -1 ∨ (0 ≤ (chI h a s).toInt ∧ (chI h a s).toInt ≤ 200)
theorem rdyFrom_at {h : Hp} {n0 k a s : Nat} (sm : Small h n0) (h10 : n0 ≤ 10) (hk : k < 5) (ha : a < n0) (hs : s < n0) (hE : 0 ≤ Ec h k a) :
    (F_X5_readyFrom h (nI a) (nI s) (nI k)).toInt = if chI h a s = -1 ∨ ¬ Ec h k a < 1000000000 then 1000000000 else Ec h k a + (chI h a s).toInt := by
  unfold F_X5_readyFrom
  rw [chg_at h (by omega) (by omega), arr_at h hk (by omega)]
  unfold Ec at hE ⊢
  by_cases c : chI h a s = -1
  · rw [if_pos c, if_pos (.inl c)]
    exact N9
  · rw [if_neg c]
    by_cases c2 : xAI h 20 0 (10 * k + a) < 1000000000
    · have c3 := c2
      rw [Int32.lt_iff_toInt_lt, N9] at c3
      rw [if_pos c2, if_neg (fun q => q.elim c (fun z => z c3))]
      rcases sm a s ha hs with z | z
      · exact absurd z c
      · exact add_int (by omega) (by omega)
    · have c3 := c2
      rw [Int32.lt_iff_toInt_lt, N9] at c3
      rw [if_neg c2, if_pos (.inr c3)]
      exact N9
def only21 (h h' : Hp) (k : Nat) : Prop := FX [] ss2 h h' ∧ (∀ j, xAI h' 20 0 j = xAI h 20 0 j) ∧ ∀ j, (∀ s, s < 10 → j ≠ 10 * k + s) → xAI h' 21 0 j = xAI h 21 0 j
theorem only21.rf {h : Hp} {k : Nat} : only21 h h k := ⟨FX.rf, fun _ => rfl, fun _ _ => rfl⟩
theorem only21.trans {a b c : Hp} {k : Nat} (x : only21 a b k) (y : only21 b c k) : only21 a c k := ⟨x.1.trans y.1, fun j => (y.2.1 j).trans (x.2.1 j), fun j hj => (y.2.2 j hj).trans (x.2.2 j hj)⟩
theorem only21.put {h : Hp} {k s : Nat} {v : Int32} (hs : s < 10) : only21 h (sAI h 21 0 (10 * k + s) v) k := ⟨FX.sai (by decide), fun _ => rfl, fun j hj => if_neg (fun q => hj s hs q.2.2)⟩
theorem chI_fx {fs : List Nat} {h h' : Hp} (q : FX fs ss2 h h') (a s : Nat) : chI h' a s = chI h a s := by
  unfold chI
  rw [q.2.2 22 (by decide), q.2.2 23 (by decide)]
theorem Ec_21 {h h' : Hp} {k m : Nat} (o : only21 h h' k) : Ec h' m = Ec h m := by
  funext s
  unfold Ec
  rw [o.2.1]
theorem changeAll_spec {h : Hp} {n0 k : Nat} (w : World h n0) (sm : Small h n0) (hk : k < 5) (hE : ∀ s, s < n0 → 0 ≤ Ec h k s ∧ (Ec h k s ≤ 300000 ∨ Ec h k s = 1000000000)) :
    only21 h (F_X5_changeAll h (nI k)) k ∧ ∀ s, s < n0 → LO 1000000000 (Rdy h n0 (Ec h k) s) (Rc (F_X5_changeAll h (nI k)) k s) := by
  have h10 := w.1
  have inner : ∀ (h2 : Hp) (s : Nat) (rec2 : Hp → Nat → Hp), only21 h h2 k → s < n0 → ∀ (mm a fu : Nat) (re : Int32), a + mm = n0 → mm < fu → LO 1000000000 (fun v => ∃ b, b < a ∧ Ec h k b < 1000000000 ∧ ¬ chI h b s = -1 ∧ v = Ec h k b + (chI h b s).toInt) re.toInt →
      ∃ re' : Int32, L_X5_changeAll_19 h (nI k) h2 s rec2 (K_X5_changeAll_19 h (nI k) h2 s rec2) fu re a = rec2 (sAI h2 21 0 (10 * k + s) re') (s + 1) ∧ LO 1000000000 (Rdy h n0 (Ec h k) s) re'.toInt := by
    intro h2 s rec2 o hs mm
    induction mm with
    | zero =>
      intro a fu re ha hf lo
      obtain ⟨fu, rfl⟩ : ∃ g, fu = g + 1 := ⟨fu - 1, by omega⟩
      obtain rfl : a = n0 := by omega
      refine ⟨re, ?_, lo⟩
      rw [L_X5_changeAll_19_s]
      unfold B_X5_changeAll_19 K_X5_changeAll_19
      rw [o.1.2.1 403 (by decide), w.2.1, if_pos (nI_le (by omega) (by omega)), ix10, put_in h2 (n := 50) (by decide) rfl (by omega) (by decide)]
    | succ mm ih =>
      intro a fu re ha hf lo
      obtain ⟨fu, rfl⟩ : ∃ g, fu = g + 1 := ⟨fu - 1, by omega⟩
      rw [L_X5_changeAll_19_s]
      unfold B_X5_changeAll_19
      rw [o.1.2.1 403 (by decide), w.2.1, if_neg (fun q => by have := (nI_leI (by omega) (by omega)).mp q; omega)]
      have sm2 : Small h2 n0 := fun x y hx hy => by rw [chI_fx o.1]; exact sm x y hx hy
      have hr := rdyFrom_at (h := h2) (k := k) (a := a) (s := s) sm2 h10 hk (by omega) hs (by rw [Ec_21 o]; exact (hE a (by omega)).1)
      rw [chI_fx o.1, Ec_21 o] at hr
      have Ea := hE a (by omega)
      refine ih (a + 1) fu _ (by omega) (by omega) ?_
      rw [min_int, hr]
      have sma := sm a s (by omega) hs
      have bnd : ∀ v, (∃ b, b < a ∧ Ec h k b < 1000000000 ∧ ¬ chI h b s = -1 ∧ v = Ec h k b + (chI h b s).toInt) → v < 1000000000 := by
        rintro v ⟨b, b1, b2, b3, rfl⟩
        have := (hE b (by omega)).2
        rcases sm b s (by omega) hs with z | z
        · exact absurd z b3
        · omega
      by_cases c : chI h a s = -1 ∨ ¬ Ec h k a < 1000000000
      · rw [if_pos c, LO.top lo bnd]
        refine lo.same (fun v => ?_)
        constructor
        · rintro ⟨b, b1, b2, b3, b4⟩
          by_cases e2 : b = a
          · subst e2
            exact absurd b2 (c.elim (fun y => absurd y b3) id)
          · exact ⟨b, by omega, b2, b3, b4⟩
        · rintro ⟨b, b1, z⟩
          exact ⟨b, by omega, z⟩
      · rw [if_neg c]
        have c1 : ¬ chI h a s = -1 := fun y => c (.inl y)
        have c2 : Ec h k a < 1000000000 := Classical.byContradiction fun y => c (.inr y)
        refine lo.add ?_ (fun v => ?_) bnd
        · rcases sma with z | z
          · exact absurd z c1
          · omega
        · constructor
          · rintro ⟨b, b1, b2, b3, b4⟩
            by_cases e2 : b = a
            · subst e2
              exact .inr b4
            · exact .inl ⟨b, by omega, b2, b3, b4⟩
          · rintro (⟨b, b1, z⟩ | rfl)
            · exact ⟨b, by omega, z⟩
            · exact ⟨a, by omega, c2, c1, rfl⟩
  have outer : ∀ (mm s fu : Nat) (h2 : Hp), s + mm = n0 → mm < fu → only21 h h2 k → (∀ x, x < s → LO 1000000000 (Rdy h n0 (Ec h k) x) (Rc h2 k x)) →
      only21 h (L_X5_changeAll_2 h (nI k) fu h2 s) k ∧ ∀ x, x < n0 → LO 1000000000 (Rdy h n0 (Ec h k) x) (Rc (L_X5_changeAll_2 h (nI k) fu h2 s) k x) := by
    intro mm
    induction mm with
    | zero =>
      intro s fu h2 hs hf o lo
      obtain ⟨fu, rfl⟩ : ∃ g, fu = g + 1 := ⟨fu - 1, by omega⟩
      obtain rfl : s = n0 := by omega
      rw [L_X5_changeAll_2_s]
      unfold B_X5_changeAll_2
      rw [o.1.2.1 403 (by decide), w.2.1, if_pos (nI_le (by omega) (by omega))]
      exact ⟨o, lo⟩
    | succ mm ih =>
      intro s fu h2 hs hf o lo
      obtain ⟨fu, rfl⟩ : ∃ g, fu = g + 1 := ⟨fu - 1, by omega⟩
      rw [L_X5_changeAll_2_s]
      unfold B_X5_changeAll_2
      rw [o.1.2.1 403 (by decide), w.2.1, if_neg (fun q => by have := (nI_leI (by omega) (by omega)).mp q; omega)]
      obtain ⟨re', e, lo'⟩ := inner h2 s (L_X5_changeAll_2 h (nI k) fu) o (by omega) n0 0 (2147483648 - 0 + 1) 1000000000 (by omega) (by omega) (.inl ⟨N9, fun v q => by
        obtain ⟨b, b1, _⟩ := q
        exact absurd b1 (Nat.not_lt_zero _)⟩)
      rw [e]
      refine ih (s + 1) fu _ (by omega) (by omega) (o.trans (only21.put (by omega))) (fun x hx => ?_)
      unfold Rc
      rw [ai_ai]
      by_cases ex : x = s
      · subst ex
        rw [if_pos ⟨rfl, rfl, rfl⟩]
        exact lo'
      · rw [if_neg (fun q => ex (by have := q.2.2; omega))]
        exact lo x (by omega)
  exact outer n0 0 _ h (by omega) (by omega) only21.rf (fun x hx => absurd hx (Nat.not_lt_zero _))
theorem small_of {h : Hp} (R : RC h) {n0 : Nat} (hs : RStop h n0) : Small h n0 := by
  intro a s ha hsn
  have h10 := hs.1
  unfold chI
  by_cases e : a = s
  · rw [if_pos e]
    obtain ⟨w, hw, ew⟩ := hs.2.2 s hsn
    rw [ew, nI_toInt (by omega)]
    exact .inr (by omega)
  · rw [if_neg e]
    rcases R.2.1 a s (by omega) (by omega) with q | ⟨w, q, -, hw⟩
    · exact .inl q
    · rw [q, nI_toInt (by omega)]
      exact .inr (by omega)
