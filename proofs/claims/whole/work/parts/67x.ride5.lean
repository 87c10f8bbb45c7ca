/-! ===== own: the last stop ===== -/
def OKE (h : Hp) (E : Nat → Int) (b : Nat) (e : Int) (s : Nat) : Prop := ¬ toB h b s = -1 ∧ E s + (toB h b s).toInt = e
def LSt (h : Hp) (n0 : Nat) (E : Nat → Int) (b : Nat) (e : Int) (s : Nat) : Prop := s < n0 ∧ OKE h E b e s ∧ (s = b ∨ (¬ OKE h E b e b ∧ ∀ x, x < s → ¬ OKE h E b e x))
theorem LSt.ex {h : Hp} {n0 b : Nat} {E : Nat → Int} {e : Int} (hb : b < n0) (q : EndQ h n0 E b e) : ∃ s, LSt h n0 E b e s := by
  obtain ⟨a, a1, a2, a3, a4⟩ := EndQ.alt.mp q
  by_cases c : OKE h E b e b
  · exact ⟨b, hb, c, .inl rfl⟩
  · obtain ⟨s, ⟨s1, s2⟩, s3⟩ := first_of (P := fun s => s < n0 ∧ OKE h E b e s) a ⟨a1, a3, a4.symm⟩
    exact ⟨s, s1, s2, .inr ⟨c, fun x hx z => s3 x hx ⟨by omega, z⟩⟩⟩
theorem OKE.rel {h : Hp} {n0 b : Nat} {E E' : Nat → Int} {e : Int} (sm : Small h n0) (hb : b < n0) (he : e ≤ 400000) (r : ∀ s, s < n0 → REL (E s) (E' s)) {s : Nat} (hs : s < n0) : OKE h E' b e s ↔ OKE h E b e s := by
  unfold OKE
  have := r s hs
  rcases toB_sm sm hb hs with z | z
  · exact ⟨fun q => absurd z q.1, fun q => absurd z q.1⟩
  · constructor
    · rintro ⟨q1, q2⟩
      rcases this with ⟨y, _⟩ | ⟨y, y'⟩
      · exact ⟨q1, by omega⟩
      · omega
    · rintro ⟨q1, q2⟩
      rcases this with ⟨y, _⟩ | ⟨y, y'⟩
      · exact ⟨q1, by omega⟩
      · omega
theorem LSt.rel {h : Hp} {n0 b : Nat} {E E' : Nat → Int} {e : Int} (sm : Small h n0) (hb : b < n0) (he : e ≤ 400000) (r : ∀ s, s < n0 → REL (E s) (E' s)) {s : Nat} (q : LSt h n0 E b e s) : LSt h n0 E' b e s := by
  obtain ⟨q1, q2, q3⟩ := q
  exact ⟨q1, (OKE.rel sm hb he r q1).mpr q2, q3.imp id (fun z => ⟨fun y => z.1 ((OKE.rel sm hb he r hb).mp y), fun x hx y => z.2 x hx ((OKE.rel sm hb he r (by omega)).mp y)⟩)⟩
theorem ef_iff {h : Hp} {n0 k b s : Nat} {e : Int32} (sm : Small h n0) (h10 : n0 ≤ 10) (hk : k < 5) (hb : b < n0) (hs : s < n0) (e4 : xFI h 604 0 = nI b) (hE : 0 ≤ Ec h k s ∧ (Ec h k s ≤ 300000 ∨ Ec h k s = 1000000000)) (he : e.toInt ≤ 400000) :
    F_X5_endFrom h (nI s) (nI k) = e ↔ OKE h (Ec h k) b e.toInt s := by
  have ef := endFrom_at sm h10 hk hb hs e4 hE.1
  rw [← Int32.toInt_inj, ef]
  unfold OKE
  by_cases c : toB h b s = -1
  · rw [if_pos (.inl c)]
    exact ⟨fun q => by omega, fun q => absurd c q.1⟩
  · have z := (toB_sm sm hb hs).resolve_left c
    by_cases c2 : Ec h k s < 1000000000
    · rw [if_neg (fun q => q.elim c (fun y => y c2))]
      exact ⟨fun q => ⟨c, q⟩, fun q => q.2⟩
    · rw [if_pos (.inr c2)]
      exact ⟨fun q => by omega, fun q => by have := q.2; omega⟩
theorem lastStop_spec {h : Hp} {n0 k b s : Nat} {e : Int32} (w : World h n0) (sm : Small h n0) (hk : k < 5) (hb : b < n0) (e4 : xFI h 604 0 = nI b) (hE : ∀ a, a < n0 → 0 ≤ Ec h k a ∧ (Ec h k a ≤ 300000 ∨ Ec h k a = 1000000000)) (he : e.toInt ≤ 400000) (q : LSt h n0 (Ec h k) b e.toInt s) :
    F_X5_lastStop h (nI k) e = nI s := by
  have h10 := w.1
  obtain ⟨q1, q2, q3⟩ := q
  unfold F_X5_lastStop
  rw [e4]
  by_cases c : OKE h (Ec h k) b e.toInt b
  · rw [if_pos ((ef_iff sm h10 hk hb hb e4 (hE b hb) he).mpr c)]
    rcases q3 with rfl | ⟨z, _⟩
    · rfl
    · exact absurd c z
  · rw [if_neg (fun z => c ((ef_iff sm h10 hk hb hb e4 (hE b hb) he).mp z))]
    have q3 : ∀ x, x < s → ¬ OKE h (Ec h k) b e.toInt x := by
      rcases q3 with rfl | ⟨_, z⟩
      · exact absurd q2 c
      · exact z
    have key : ∀ (mm x fu : Nat), x + mm = s → mm < fu → L_X5_lastStop_20 h (nI k) e fu x = nI s := by
      intro mm
      induction mm with
      | zero =>
        intro x fu hx hf
        obtain ⟨fu, rfl⟩ : ∃ g, fu = g + 1 := ⟨fu - 1, by omega⟩
        obtain rfl : x = s := by omega
        rw [L_X5_lastStop_20_s]
        unfold B_X5_lastStop_20
        rw [w.2.1, if_neg (fun z => by have := (nI_leI (by omega) (by omega)).mp z; omega), if_pos ((ef_iff sm h10 hk hb q1 e4 (hE x q1) he).mpr q2)]
      | succ mm ih =>
        intro x fu hx hf
        obtain ⟨fu, rfl⟩ : ∃ g, fu = g + 1 := ⟨fu - 1, by omega⟩
        rw [L_X5_lastStop_20_s]
        unfold B_X5_lastStop_20
        rw [w.2.1, if_neg (fun z => by have := (nI_leI (by omega) (by omega)).mp z; omega), if_neg (fun z => q3 x (by omega) ((ef_iff sm h10 hk hb (show x < n0 by omega) e4 (hE x (by omega)) he).mp z))]
        exact ih (x + 1) fu (by omega) (by omega)
    exact key s 0 _ (by omega) (by omega)
/-- the reference's -/
theorem lastM_spec {h X Y : Hp} {n0 n a b ti s : Nat} {e : Int32} (kx : Hp → Int32 → (Int32 × Hp)) (R : RC h) (hs0 : RStop h n0) (ma : MA h Y) (hn : n < 5) (hb : b < n0) (e23 : xFI Y 1023 0 = e) (hE : ∀ x, x < n0 → 0 ≤ Em Y n x ∧ Em Y n x ≤ 100000000) (hc : ¬ OKE h (Em Y n) b e.toInt b) (q : LSt h n0 (Em Y n) b e.toInt s) :
    ∃ Y', L_X9_finds_83 X (nI a) (nI b) (nI ti) n kx (2147483648 - 0 + 1) Y (-1) 0 = kx Y' (nI s) ∧ FX [] [63] Y Y' ∧ xAI Y' 63 0 n = toB h b s ∧ ∀ j, j ≠ n → xAI Y' 63 0 j = xAI Y 63 0 j := by
  have h10 := hs0.1
  obtain ⟨q1, q2, q3⟩ := q
  have q3 : ∀ x, x < s → ¬ OKE h (Em Y n) b e.toInt x := by
    rcases q3 with rfl | ⟨_, z⟩
    · exact absurd q2 hc
    · exact z
  have hsb : s ≠ b := fun z => hc (z ▸ q2)
  have way : ∀ x, x < n0 → x ≠ b → (OKE h (Em Y n) b e.toInt x → ¬ xAI h 41 0 (10 * x + b) ≤ 0 ∧ xAI Y 57 0 (10 * n + x) + xAI h 41 0 (10 * x + b) = e ∧ xAI h 41 0 (10 * x + b) = toB h b x) ∧
      (¬ OKE h (Em Y n) b e.toInt x → xAI h 41 0 (10 * x + b) ≤ 0 ∨ ¬ xAI Y 57 0 (10 * n + x) + xAI h 41 0 (10 * x + b) = e) := by
    intro x hx hxb
    have hEx := hE x hx
    have ec : toB h b x = xAI h 23 0 (10 * x + b) := by unfold toB; rw [if_neg hxb]
    unfold OKE
    rw [ec]
    unfold Em at hEx
    rcases R.2.1.1 x b (by omega) (by omega) with ⟨f1, f2⟩ | ⟨w', f1, f2, w1, w2⟩
    · rw [f1, f2]
      exact ⟨fun z => absurd rfl z.1, fun _ => .inl (by decide)⟩
    · have h0 : ¬ nI w' ≤ (0 : Int32) := fun z => by have := (nI_leI (a := w') (b := 0) (by omega) (by decide)).mp z; omega
      have ea : (xAI Y 57 0 (10 * n + x) + nI w').toInt = Em Y n x + (nI w').toInt := add_int (by omega) (by rw [nI_toInt (by omega)]; omega)
      rw [f1, f2]
      exact ⟨fun z => ⟨h0, Int32.toInt_inj.mp (ea.trans z.2), rfl⟩, fun z => .inr (fun y => z ⟨nI_m1ne (by omega), by rw [← ea, y]⟩)⟩
  have only : ∀ {Z : Hp}, FX [] [63] Y Z → xFI Z 1000 0 = nI n0 ∧ xFI Z 1023 0 = e ∧ (∀ x, xAI Z 57 0 x = xAI Y 57 0 x) ∧ ∀ x, xAI Z 41 0 x = xAI h 41 0 x := fun o =>
    ⟨(o.2.1 1000 (by decide) 0).trans ((ma.1 1000 (by decide) 0).trans hs0.2.2.1), (o.2.1 1023 (by decide) 0).trans e23, fun x => o.2.2 57 (by decide) 0 x, fun x => (o.2.2 41 (by decide) 0 x).trans (ma.2 41 (by decide) 0 x)⟩
  have key : ∀ (mm x fu : Nat) (Z : Hp), x + mm = s → mm + 1 < fu → FX [] [63] Y Z → (∀ j, j ≠ n → xAI Z 63 0 j = xAI Y 63 0 j) →
      ∃ Y', L_X9_finds_83 X (nI a) (nI b) (nI ti) n kx fu Z (-1) x = kx Y' (nI s) ∧ FX [] [63] Y Y' ∧ xAI Y' 63 0 n = toB h b s ∧ ∀ j, j ≠ n → xAI Y' 63 0 j = xAI Y 63 0 j := by
    intro mm
    induction mm with
    | zero =>
      intro x fu Z hx hf o oj
      obtain ⟨fu, rfl⟩ : ∃ g, fu = g + 1 + 1 := ⟨fu - 2, by omega⟩
      obtain rfl : x = s := by omega
      obtain ⟨g1, g2, g3⟩ := (way x q1 hsb).1 q2
      obtain ⟨o1, o2, o3, o4⟩ := only o
      rw [L_X9_finds_83_s]
      unfold B_X9_finds_83
      rw [o1, if_neg (fun z => by have := (nI_leI (by omega) (by omega)).mp z; omega), if_pos rfl, nI_clamp (show n < 2 ^ 31 by omega), xi10, nI_clamp (show 10 * x + b < 2 ^ 31 by omega), xi10, nI_clamp (show 10 * n + x < 2 ^ 31 by omega), o3, o4, o2, if_neg g1, if_pos g2, g3, L_X9_finds_83_s]
      refine ⟨sAI Z 63 0 n (toB h b x), ?_, o.trans (FX.sai (by decide)), if_pos ⟨rfl, rfl, rfl⟩, fun j hj => ?_⟩
      · unfold B_X9_finds_83
        rw [if_neg (nI_m1ne (show x < 2147483648 by omega))]
        split <;> rfl
      · rw [ai_ai, if_neg (fun z => hj z.2.2)]
        exact oj j hj
    | succ mm ih =>
      intro x fu Z hx hf o oj
      obtain ⟨fu, rfl⟩ : ∃ g, fu = g + 1 := ⟨fu - 1, by omega⟩
      obtain ⟨o1, o2, o3, o4⟩ := only o
      rw [L_X9_finds_83_s]
      unfold B_X9_finds_83
      rw [o1, if_neg (fun z => by have := (nI_leI (by omega) (by omega)).mp z; omega), if_pos rfl, nI_clamp (show n < 2 ^ 31 by omega), xi10, nI_clamp (show 10 * x + b < 2 ^ 31 by omega), xi10, nI_clamp (show 10 * n + x < 2 ^ 31 by omega), o3, o4, o2]
      have nx := ih (x + 1) fu (sAI Z 63 0 n (xAI h 41 0 (10 * x + b))) (by omega) (by omega) (o.trans (FX.sai (by decide))) (fun j hj => by
        rw [ai_ai, if_neg (fun z => hj z.2.2)]
        exact oj j hj)
      by_cases exb : x = b
      · have z0 : xAI h 41 0 (10 * x + b) ≤ 0 := by rw [exb, R.2.1.2 b (by omega)]; decide
        rw [if_pos z0]
        exact nx
      · by_cases g0 : xAI h 41 0 (10 * x + b) ≤ 0
        · rw [if_pos g0]
          exact nx
        · rw [if_neg g0, if_neg (((way x (by omega) exb).2 (q3 x (by omega))).resolve_left g0)]
          exact nx
  exact key s 0 _ Y (by omega) (by omega) FX.rf (fun _ _ => rfl)
