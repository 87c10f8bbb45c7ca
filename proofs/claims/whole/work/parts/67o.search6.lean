/-! ===== own: the reference's search ===== -/
theorem N8 : (100000000 : Int32).toInt = 100000000 := by decide
theorem nI_m1ne {w : Nat} (hw : w < 2147483648) : ¬ nI w = -1 := fun q => by
  have e := congrArg Int32.toInt q
  rw [nI_toInt hw] at e
  have e1 : (-1 : Int32).toInt = -1 := by decide
  omega
theorem W2.step {c m x le : Int32} (w : W2 c m) (hx : 0 ≤ x.toInt ∧ x.toInt ≤ 100000000) : (if m ≤ 0 then le else if le ≤ x + m then le else x + m).toInt = if c = -1 then le.toInt else min le.toInt (x.toInt + c.toInt) := by
  rcases w with ⟨rfl, rfl⟩ | ⟨w, rfl, rfl, w1, w2⟩
  · rw [if_pos (by decide), if_pos rfl]
  · rw [if_neg (c := nI w ≤ (0 : Int32)) (fun q => by have := (nI_leI (a := w) (b := 0) (by omega) (by decide)).mp q; omega), min_int2, add_int (by omega) (by rw [nI_toInt (by omega)]; omega), if_neg (nI_m1ne (by omega))]
theorem LO.take {N : Int} {Q Q' : Int → Prop} {v x : Int} (l : LO N Q (min v N)) (h : (N ≤ x ∧ ∀ a, Q' a ↔ Q a) ∨ (x < N ∧ ∀ a, Q' a ↔ (Q a ∨ a = x))) (hb : ∀ a, Q a → a < N) : LO N Q' (min (min v x) N) := by
  rcases h with ⟨h1, h2⟩ | ⟨h1, h2⟩
  · have e : min (min v x) N = min v N := by omega
    rw [e]
    exact l.same h2
  · have e : min (min v x) N = min (min v N) x := by omega
    rw [e]
    exact l.add h1 h2 hb
/-- who is ready at s behind E, the reference's -/
def RdyM (h : Hp) (n0 : Nat) (E : Nat → Int) (s : Nat) (v : Int) : Prop := ∃ a, a < n0 ∧ E a < 100000000 ∧ ¬ chI h a s = -1 ∧ v = E a + (chI h a s).toInt
def EndM (h : Hp) (n0 : Nat) (E : Nat → Int) (b : Nat) (v : Int) : Prop := ∃ s, s < n0 ∧ E s < 100000000 ∧ ¬ toB h b s = -1 ∧ v = E s + (toB h b s).toInt
/-- the least of a row of ways, so far below a, s0 itself taken first -/
def Lq (n0 : Nat) (E : Nat → Int) (c : Nat → Int32) (s0 a : Nat) (v : Int) : Prop := ∃ b, b < n0 ∧ (b = s0 ∨ b < a) ∧ E b < 100000000 ∧ ¬ c b = -1 ∧ v = E b + (c b).toInt
theorem Lq.first {n0 : Nat} {E : Nat → Int} {c : Nat → Int32} {s0 : Nat} (hs : s0 < n0) (hc : ¬ c s0 = -1 ∧ 0 ≤ (c s0).toInt) : LO 100000000 (Lq n0 E c s0 0) (min (E s0 + (c s0).toInt) 100000000) ∨ ¬ (E s0 ≤ 300000 ∧ (c s0).toInt ≤ 200 ∨ E s0 = 100000000) := by
  by_cases q : E s0 ≤ 300000 ∧ (c s0).toInt ≤ 200 ∨ E s0 = 100000000
  · refine .inl ?_
    rcases q with q | q
    · have e : min (E s0 + (c s0).toInt) 100000000 = E s0 + (c s0).toInt := by omega
      rw [e]
      refine .inr ⟨⟨s0, hs, .inl rfl, by omega, hc.1, rfl⟩, ?_⟩
      rintro v ⟨b, b1, b2, b3, b4, rfl⟩
      rcases b2 with rfl | b2
      · omega
      · omega
    · refine .inl ⟨by omega, ?_⟩
      rintro v ⟨b, b1, b2, b3, b4, rfl⟩
      rcases b2 with rfl | b2
      · omega
      · omega
  · exact .inr q
theorem Lq.step {n0 : Nat} {E : Nat → Int} {c : Nat → Int32} {s0 a : Nat} {le : Int} (l : LO 100000000 (Lq n0 E c s0 a) (min le 100000000)) (ha : a < n0) (has : a ≠ s0) (hE : ∀ s, s < n0 → 0 ≤ E s ∧ (E s ≤ 300000 ∨ E s = 100000000)) (hc : ∀ s, s < n0 → c s = -1 ∨ (0 ≤ (c s).toInt ∧ (c s).toInt ≤ 200)) :
    LO 100000000 (Lq n0 E c s0 (a + 1)) (min (if c a = -1 then le else min le (E a + (c a).toInt)) 100000000) := by
  have hEa := hE a ha
  have bnd : ∀ v, Lq n0 E c s0 a v → v < 100000000 := by
    rintro v ⟨b, b1, b2, b3, b4, rfl⟩
    have := hE b b1
    rcases hc b b1 with z | z
    · exact absurd z b4
    · omega
  by_cases q : c a = -1
  · rw [if_pos q]
    refine l.same (fun v => ?_)
    constructor
    · rintro ⟨b, b1, b2, b3, b4, b5⟩
      by_cases e : b = a
      · subst e
        exact absurd q b4
      · exact ⟨b, b1, by omega, b3, b4, b5⟩
    · rintro ⟨b, b1, b2, z⟩
      exact ⟨b, b1, by omega, z⟩
  · rw [if_neg q]
    have hca := (hc a ha).resolve_left q
    refine l.take ?_ bnd
    by_cases e1 : E a = 100000000
    · refine .inl ⟨by omega, fun v => ?_⟩
      constructor
      · rintro ⟨b, b1, b2, b3, b4, b5⟩
        by_cases e : b = a
        · subst e
          omega
        · exact ⟨b, b1, by omega, b3, b4, b5⟩
      · rintro ⟨b, b1, b2, z⟩
        exact ⟨b, b1, by omega, z⟩
    · refine .inr ⟨by omega, fun v => ?_⟩
      constructor
      · rintro ⟨b, b1, b2, b3, b4, b5⟩
        by_cases e : b = a
        · subst e
          exact .inr b5
        · exact .inl ⟨b, b1, by omega, b3, b4, b5⟩
      · rintro (⟨b, b1, b2, z⟩ | rfl)
        · exact ⟨b, b1, by omega, z⟩
        · exact ⟨a, ha, by omega, by omega, q, rfl⟩
theorem Lq.self {n0 : Nat} {E : Nat → Int} {c : Nat → Int32} {s0 : Nat} {le : Int} (l : LO 100000000 (Lq n0 E c s0 s0) (min le 100000000)) : LO 100000000 (Lq n0 E c s0 (s0 + 1)) (min le 100000000) := l.same (fun v => by
  constructor
  · rintro ⟨b, b1, b2, z⟩
    exact ⟨b, b1, by omega, z⟩
  · rintro ⟨b, b1, b2, z⟩
    exact ⟨b, b1, by omega, z⟩)
theorem Lq.last {n0 : Nat} {E : Nat → Int} {c : Nat → Int32} {s0 : Nat} {v : Int} : (∃ b, b < n0 ∧ E b < 100000000 ∧ ¬ c b = -1 ∧ v = E b + (c b).toInt) ↔ Lq n0 E c s0 n0 v := by
  constructor
  · rintro ⟨b, b1, z⟩
    exact ⟨b, b1, .inr b1, z⟩
  · rintro ⟨b, b1, b2, z⟩
    exact ⟨b, b1, z⟩
def only58 (h h' : Hp) (k : Nat) : Prop := FX [] [58] h h' ∧ ∀ j, (∀ s, s < 10 → j ≠ 10 * k + s) → xAI h' 58 0 j = xAI h 58 0 j
theorem only58.rf {h : Hp} {k : Nat} : only58 h h k := ⟨FX.rf, fun _ _ => rfl⟩
theorem only58.trans {a b c : Hp} {k : Nat} (x : only58 a b k) (y : only58 b c k) : only58 a c k := ⟨x.1.trans y.1, fun j hj => (y.2 j hj).trans (x.2 j hj)⟩
theorem only58.put {h : Hp} {k s : Nat} {v : Int32} (hs : s < 10) : only58 h (sAI h 58 0 (10 * k + s) v) k := ⟨FX.sai (by decide), fun j hj => if_neg (fun q => hj s hs q.2.2)⟩
theorem Em_58 {h h' : Hp} {k m : Nat} (o : only58 h h' k) : Em h' m = Em h m := by
  funext s
  unfold Em
  rw [o.1.2.2 57 (by decide)]
theorem Rm_58 {h h' : Hp} {k m : Nat} (o : only58 h h' k) (hm : m ≠ k) {s : Nat} (hs : s < 10) : Rm h' m s = Rm h m s := by
  unfold Rm
  rw [o.2 _ (fun s' hs' q => by omega)]
theorem MA.o58 {h H X : Hp} {k : Nat} (a : MA h H) (o : only58 H X k) : MA h X := a.fx o.1 (fun f hf => by cases hf) (fun s hs => by simp only [List.mem_singleton] at hs; subst hs; decide)
theorem MA.o57 {h H X : Hp} {k : Nat} (a : MA h H) (o : only57 H X k) : MA h X := a.fx o.1 (fun f hf => by cases hf) (fun s hs => by simp only [List.mem_singleton] at hs; subst hs; decide)
theorem top_int (x : Int32) : (if 100000000 ≤ x then 100000000 else x).toInt = min x.toInt 100000000 := by
  by_cases q : 100000000 ≤ x
  · rw [if_pos q]
    rw [Int32.le_iff_toInt_le, N8] at q
    rw [N8]
    omega
  · rw [if_neg q]
    rw [Int32.le_iff_toInt_le, N8] at q
    omega
theorem readies_spec {h H : Hp} {n0 k : Nat} (R : RC h) (hs0 : RStop h n0) (a : MA h H) (hk : k < 5) (hE : ∀ s, s < n0 → 0 ≤ Em H k s ∧ (Em H k s ≤ 300000 ∨ Em H k s = 100000000)) :
    only58 H (F_X9_readies H (nI k)) k ∧ ∀ s, s < n0 → LO 100000000 (RdyM h n0 (Em H k) s) (Rm (F_X9_readies H (nI k)) k s) := by
  have sm := small_of R hs0
  have h10 := hs0.1
  have e1000 : ∀ {X : Hp}, only58 H X k → xFI X 1000 0 = nI n0 := fun o => ((a.o58 o).1 1000 (by decide) 0).trans hs0.2.2.1
  have inner : ∀ (h2 : Hp) (s : Nat) (rec2 : Hp → Nat → Hp), only58 H h2 k → s < n0 → ∀ (mm o fu : Nat) (le : Int32), o + mm = n0 → mm < fu → LO 100000000 (Lq n0 (Em H k) (fun b => chI h b s) s o) (min le.toInt 100000000) →
      ∃ re' : Int32, L_X9_readies_32 H (nI k) h2 s rec2 (K_X9_readies_32 H (nI k) h2 s rec2) fu le o = rec2 (sAI h2 58 0 (10 * k + s) re') (s + 1) ∧ LO 100000000 (RdyM h n0 (Em H k) s) re'.toInt := by
    intro h2 s rec2 o2 hs mm
    induction mm with
    | zero =>
      intro o fu le ho hf lo
      obtain ⟨fu, rfl⟩ : ∃ g, fu = g + 1 := ⟨fu - 1, by omega⟩
      obtain rfl : o = n0 := by omega
      refine ⟨if 100000000 ≤ le then 100000000 else le, ?_, ?_⟩
      · rw [L_X9_readies_32_s]
        unfold B_X9_readies_32 K_X9_readies_32
        rw [e1000 o2, if_pos (nI_le (by omega) (by omega)), xi10, nI_clamp (by omega)]
      · rw [top_int]
        exact lo.same (fun v => Lq.last)
    | succ mm ih =>
      intro o fu le ho hf lo
      obtain ⟨fu, rfl⟩ : ∃ g, fu = g + 1 := ⟨fu - 1, by omega⟩
      rw [L_X9_readies_32_s]
      unfold B_X9_readies_32
      rw [e1000 o2, if_neg (fun q => by have := (nI_leI (by omega) (by omega)).mp q; omega), xi10, nI_clamp (show 10 * o + s < 2 ^ 31 by omega), xi10, nI_clamp (show 10 * k + o < 2 ^ 31 by omega), (a.o58 o2).2 41 (by decide), o2.1.2.2 57 (by decide)]
      refine ih (o + 1) fu _ (by omega) (by omega) ?_
      by_cases e : o = s
      · subst e
        have z := R.2.1.2 o (by omega)
        rw [show 10 * o + o = 10 * o + o from rfl, z, if_pos (by decide)]
        exact Lq.self lo
      · have w := R.2.1.1 o s (by omega) (by omega)
        have ec : chI h o s = xAI h 23 0 (10 * o + s) := by unfold chI; rw [if_neg e]
        have hEo := hE o (by omega)
        unfold Em at hEo
        rw [w.step (by omega), ← ec]
        exact Lq.step (c := fun b => chI h b s) lo (by omega) e hE (fun b hb => sm b s hb hs)
  have outer : ∀ (mm s fu : Nat) (h2 : Hp), s + mm = n0 → mm < fu → only58 H h2 k → (∀ x, x < s → LO 100000000 (RdyM h n0 (Em H k) x) (Rm h2 k x)) →
      only58 H (L_X9_readies_2 H (nI k) fu h2 s) k ∧ ∀ x, x < n0 → LO 100000000 (RdyM h n0 (Em H k) x) (Rm (L_X9_readies_2 H (nI k) fu h2 s) k x) := by
    intro mm
    induction mm with
    | zero =>
      intro s fu h2 hs hf o lo
      obtain ⟨fu, rfl⟩ : ∃ g, fu = g + 1 := ⟨fu - 1, by omega⟩
      obtain rfl : s = n0 := by omega
      rw [L_X9_readies_2_s]
      unfold B_X9_readies_2
      rw [e1000 o, if_pos (nI_le (by omega) (by omega))]
      exact ⟨o, lo⟩
    | succ mm ih =>
      intro s fu h2 hs hf o lo
      obtain ⟨fu, rfl⟩ : ∃ g, fu = g + 1 := ⟨fu - 1, by omega⟩
      rw [L_X9_readies_2_s]
      unfold B_X9_readies_2
      obtain ⟨w, w1, w2, w3⟩ := hs0.2.2.2 s (by omega)
      rw [e1000 o, if_neg (fun q => by have := (nI_leI (by omega) (by omega)).mp q; omega), xi10, nI_clamp (show 10 * k + s < 2 ^ 31 by omega), nI_clamp (show s < 2 ^ 31 by omega), (a.o58 o).2 40 (by decide), w3, o.1.2.2 57 (by decide)]
      have ec : chI h s s = nI w := by unfold chI; rw [if_pos rfl, w2]
      have hEs := hE s (by omega)
      have st : LO 100000000 (Lq n0 (Em H k) (fun b => chI h b s) s 0) (min (xAI H 57 0 (10 * k + s) + nI w).toInt 100000000) := by
        have ea : (xAI H 57 0 (10 * k + s) + nI w).toInt = Em H k s + (chI h s s).toInt := by
          unfold Em at hEs
          rw [ec, add_int (by omega) (by rw [nI_toInt (by omega)]; omega)]
          rfl
        rw [ea]
        have tw : (chI h s s).toInt = w := by rw [ec, nI_toInt (by omega)]
        refine (Lq.first (c := fun b => chI h b s) (show s < n0 by omega) ⟨by show ¬ chI h s s = -1; rw [ec]; exact nI_m1ne (by omega), by show 0 ≤ (chI h s s).toInt; omega⟩).resolve_right (fun q => q ?_)
        show Em H k s ≤ 300000 ∧ (chI h s s).toInt ≤ 200 ∨ Em H k s = 100000000
        omega
      obtain ⟨re', e, lo'⟩ := inner h2 s (L_X9_readies_2 H (nI k) fu) o (by omega) n0 0 (2147483648 - 0 + 1) _ (by omega) (by omega) st
      rw [e]
      refine ih (s + 1) fu _ (by omega) (by omega) (o.trans (only58.put (by omega))) (fun x hx => ?_)
      unfold Rm
      rw [ai_ai]
      by_cases ex : x = s
      · subst ex
        rw [if_pos ⟨rfl, rfl, rfl⟩]
        exact lo'
      · rw [if_neg (fun q => ex (by have := q.2.2; omega))]
        exact lo x (by omega)
  exact outer n0 0 _ H (by omega) (by omega) only58.rf (fun x hx => absurd hx (Nat.not_lt_zero _))
theorem timeBy_spec {h H : Hp} {n0 k b : Nat} (R : RC h) (hs0 : RStop h n0) (a : MA h H) (hk : k < 5) (hb : b < n0) (hE : ∀ s, s < n0 → 0 ≤ Em H k s ∧ (Em H k s ≤ 300000 ∨ Em H k s = 100000000)) :
    LO 100000000 (EndM h n0 (Em H k) b) (F_X9_timeBy H (nI b) (nI k)).toInt := by
  have sm := small_of R hs0
  have h10 := hs0.1
  have e1000 : xFI H 1000 0 = nI n0 := (a.1 1000 (by decide) 0).trans hs0.2.2.1
  have key : ∀ (mm s fu : Nat) (le : Int32), s + mm = n0 → mm < fu → LO 100000000 (Lq n0 (Em H k) (toB h b) b s) (min le.toInt 100000000) → LO 100000000 (EndM h n0 (Em H k) b) (L_X9_timeBy_15 H (nI b) (nI k) fu le s).toInt := by
    intro mm
    induction mm with
    | zero =>
      intro s fu le hs hf lo
      obtain ⟨fu, rfl⟩ : ∃ g, fu = g + 1 := ⟨fu - 1, by omega⟩
      obtain rfl : s = n0 := by omega
      rw [L_X9_timeBy_15_s]
      unfold B_X9_timeBy_15
      rw [e1000, if_pos (nI_le (by omega) (by omega)), top_int]
      exact lo.same (fun v => Lq.last)
    | succ mm ih =>
      intro s fu le hs hf lo
      obtain ⟨fu, rfl⟩ : ∃ g, fu = g + 1 := ⟨fu - 1, by omega⟩
      rw [L_X9_timeBy_15_s]
      unfold B_X9_timeBy_15
      rw [e1000, if_neg (fun q => by have := (nI_leI (by omega) (by omega)).mp q; omega), xi10, nI_clamp (show 10 * s + b < 2 ^ 31 by omega), xi10, nI_clamp (show 10 * k + s < 2 ^ 31 by omega), a.2 41 (by decide)]
      refine ih (s + 1) fu _ (by omega) (by omega) ?_
      by_cases e : s = b
      · subst e
        have z := R.2.1.2 s (by omega)
        rw [z, if_pos (by decide)]
        exact Lq.self lo
      · have w := R.2.1.1 s b (by omega) (by omega)
        have ec : toB h b s = xAI h 23 0 (10 * s + b) := by unfold toB; rw [if_neg e]
        have hEs := hE s (by omega)
        unfold Em at hEs
        rw [w.step (by omega), ← ec]
        exact Lq.step (c := toB h b) lo (by omega) e hE (fun x hx => toB_sm sm hb hx)
  unfold F_X9_timeBy
  rw [xi10, nI_clamp (show 10 * k + b < 2 ^ 31 by omega)]
  refine key n0 0 _ _ (by omega) (by omega) ?_
  have et : toB h b b = 0 := by unfold toB; rw [if_pos rfl]
  have z0 : (0 : Int32).toInt = 0 := by decide
  have hEb := hE b hb
  have := (Lq.first (E := Em H k) (c := toB h b) hb ⟨by rw [et]; decide, by rw [et, z0]; omega⟩).resolve_right (fun q => q (by rw [et, z0]; omega))
  rw [et, z0, Int.add_zero] at this
  exact this
