/-! ===== own: the reference's search: its rounds ===== -/
theorem reaches_spec {h H : Hp} {n0 nn a ti : Nat} (W : CW h) (R : RC h) (hs0 : RStop h n0) (w : World h n0) (ma : MA h H) (ha : a < n0) (hti : ti ≤ 140000) (hnn : nn ≤ 4) :
    SearchM h (F_X9_reaches H (nI a) (nI ti) (nI nn)) n0 nn a ti ∧ FX [1022] [57, 58] H (F_X9_reaches H (nI a) (nI ti) (nI nn)) := by
  have h10 := w.1
  have sm := small_of R hs0
  have hld : ti / 1440 + 1 < 100 := by omega
  have maq : ∀ {Y : Hp}, FX [1022] [57, 58] H Y → MA h Y := fun q => ma.fx q (fun f hf => by simp only [List.mem_singleton] at hf; subst hf; decide) (fun s hs => by
    simp only [List.mem_cons, List.not_mem_nil, or_false] at hs
    rcases hs with rfl | rfl <;> decide)
  -- the rounds
  have rounds : ∀ (mm k fu : Nat) (h5 : Hp), k + mm = nn → mm < fu → FX [1022] [57, 58] H h5 → xFI h5 1022 0 = nI ti → (∀ s, s < n0 → LO 100000000 (R0 h a ti s) (Rm h5 0 s)) →
      (∀ m, m < k → ∀ s, s < n0 → LO 100000000 (CandT h (Rm h5 m) (ti / 1440 - 1) (ti / 1440 + 1) (xLS h 11) s) (Em h5 (m + 1) s) ∧ LO 100000000 (RdyM h n0 (Em h5 (m + 1)) s) (Rm h5 (m + 1) s)) →
      (∀ k', k < k' → k' < 5 → ∀ s, s < 10 → Em h5 k' s = 100000000) → SearchM h (L_X9_reaches_105 H (nI a) (nI ti) (nI nn) fu h5 (k + 1)) n0 nn a ti ∧ FX [1022] [57, 58] H (L_X9_reaches_105 H (nI a) (nI ti) (nI nn) fu h5 (k + 1)) := by
    intro mm
    induction mm with
    | zero =>
      intro k fu h5 hk hf q e22 l0 lm le
      obtain ⟨fu, rfl⟩ : ∃ g, fu = g + 1 := ⟨fu - 1, by omega⟩
      obtain rfl : k = nn := by omega
      rw [L_X9_reaches_105_s]
      unfold B_X9_reaches_105
      rw [if_pos (nI_lt (Nat.lt_succ_self k) (by omega))]
      exact ⟨⟨maq q, l0, lm, e22⟩, q⟩
    | succ mm ih =>
      intro k fu h5 hk hf q e22 l0 lm le
      obtain ⟨fu, rfl⟩ : ∃ g, fu = g + 1 := ⟨fu - 1, by omega⟩
      rw [L_X9_reaches_105_s]
      unfold B_X9_reaches_105
      rw [if_neg (nI_pos_lt (by omega) (by omega) (by omega))]
      obtain ⟨h6, e6, o6, mu6⟩ := lookAll_spec (X := H) (nn := nI nn) (a := a) W R w (maq q) hti e22 (show k < 4 by omega) h5 (L_X9_reaches_105 H (nI a) (nI ti) (nI nn) fu) rfl
      rw [e6]
      have loE : ∀ s, s < n0 → LO 100000000 (CandT h (Rm h5 k) (ti / 1440 - 1) (ti / 1440 + 1) (xLS h 11) s) (Em h6 (k + 1) s) := fun s hs => mu6.lo (le (k + 1) (by omega) (by omega) s (by omega)) (fun v c => by have := c.bnd w hld; omega)
      have q6 : FX [1022] [57, 58] H h6 := q.trans (o6.1.mono (fun f hf => by cases hf) (fun s hs => by simp only [List.mem_singleton] at hs; subst hs; decide))
      obtain ⟨o7, lo7⟩ := readies_spec R hs0 (maq q6) (show k + 1 < 5 by omega) (fun s hs => (loE s hs).val (fun v c => c.bnd w hld) (by omega))
      generalize F_X9_readies h6 (nI (k + 1)) = h7 at o7 lo7
      have q7 : FX [1022] [57, 58] H h7 := q6.trans (o7.1.mono (fun f hf => by cases hf) (fun s hs => by simp only [List.mem_singleton] at hs; subst hs; decide))
      refine ih (k + 1) fu h7 (by omega) (by omega) q7 ?_ (fun s hs => ?_) (fun m hm s hs => ?_) (fun k' hk' hk5 s hs => ?_)
      · rw [o7.1.2.1 1022 (by decide), o6.1.2.1 1022 (by decide)]
        exact e22
      · rw [Rm_58 o7 (by omega) (by omega), Rm_57 o6]
        exact l0 s hs
      · by_cases em : m = k
        · subst em
          have e1 : Em h7 (m + 1) = Em h6 (m + 1) := Em_58 o7
          refine ⟨?_, ?_⟩
          · rw [e1]
            refine (loE s hs).same (fun v => CandT.cg w (fun x hx => ?_) s v)
            rw [Rm_58 o7 (by omega) (by omega), Rm_57 o6]
          · rw [e1]
            exact lo7 s hs
        · obtain ⟨l1, l2⟩ := lm m (by omega) s hs
          have e1 : ∀ x, x < n0 → Em h7 (m + 1) x = Em h5 (m + 1) x := fun x hx => by rw [Em_58 o7, Em_57 o6 (by omega) (by omega)]
          have e2 : ∀ m', m' ≤ k → ∀ x, x < n0 → Rm h7 m' x = Rm h5 m' x := fun m' hm' x hx => by rw [Rm_58 o7 (by omega) (by omega), Rm_57 o6]
          refine ⟨?_, ?_⟩
          · rw [e1 s hs]
            exact l1.same (fun v => CandT.cg w (fun x hx => e2 m (by omega) x hx) s v)
          · rw [e2 (m + 1) (by omega) s hs]
            refine l2.same (fun v => ?_)
            constructor
            · rintro ⟨x, x1, x2, x3, x4⟩
              exact ⟨x, x1, by rw [← e1 x x1]; exact x2, x3, by rw [← e1 x x1]; exact x4⟩
            · rintro ⟨x, x1, x2, x3, x4⟩
              exact ⟨x, x1, by rw [e1 x x1]; exact x2, x3, by rw [e1 x x1]; exact x4⟩
      · rw [Em_58 o7, Em_57 o6 (by omega) hs]
        exact le k' (by omega) hk5 s hs
  -- when one is ready at first
  have first : ∀ (mm s fu : Nat) (h4 : Hp), s + mm = n0 → mm < fu → FX [1022] [57, 58] H h4 → xFI h4 1022 0 = nI ti → (∀ x, x < s → LO 100000000 (R0 h a ti x) (Rm h4 0 x)) → (∀ k', k' < 5 → ∀ s, s < 10 → Em h4 k' s = 100000000) →
      SearchM h (L_X9_reaches_42 H (nI a) (nI ti) (nI nn) (K_X9_reaches_42 H (nI a) (nI ti) (nI nn)) fu h4 s) n0 nn a ti ∧ FX [1022] [57, 58] H (L_X9_reaches_42 H (nI a) (nI ti) (nI nn) (K_X9_reaches_42 H (nI a) (nI ti) (nI nn)) fu h4 s) := by
    intro mm
    induction mm with
    | zero =>
      intro s fu h4 hs hf q e22 l0 le
      obtain ⟨fu, rfl⟩ : ∃ g, fu = g + 1 := ⟨fu - 1, by omega⟩
      obtain rfl : s = n0 := by omega
      rw [L_X9_reaches_42_s]
      unfold B_X9_reaches_42 K_X9_reaches_42
      rw [((maq q).1 1000 (by decide) 0).trans hs0.2.2.1, if_pos (nI_le (by omega) (by omega))]
      exact rounds nn 0 _ h4 (by omega) (by omega) q e22 l0 (fun m hm => absurd hm (Nat.not_lt_zero _)) (fun k' _ => le k')
    | succ mm ih =>
      intro s fu h4 hs hf q e22 l0 le
      obtain ⟨fu, rfl⟩ : ∃ g, fu = g + 1 := ⟨fu - 1, by omega⟩
      rw [L_X9_reaches_42_s]
      unfold B_X9_reaches_42
      rw [((maq q).1 1000 (by decide) 0).trans hs0.2.2.1, if_neg (fun z => by have := (nI_leI (by omega) (by omega)).mp z; omega), xi10, nI_clamp (show 10 * a + s < 2 ^ 31 by omega), nI_clamp (show s < 2 ^ 31 by omega), (maq q).2 41 (by decide)]
      refine ih (s + 1) fu _ (by omega) (by omega) (q.trans (FX.sai (by decide))) e22 (fun x hx => ?_) (fun k' hk' x hx => ?_)
      · unfold Rm
        rw [ai_ai]
        by_cases ex : x = s
        · subst ex
          rw [if_pos ⟨rfl, rfl, by omega⟩]
          by_cases ea : x = a
          · subst ea
            rw [if_pos rfl, nI_toInt (by omega)]
            exact .inr ⟨.inl ⟨rfl, rfl⟩, fun v z => by
              rcases z with ⟨_, e⟩ | ⟨e, _⟩
              · omega
              · exact absurd rfl e⟩
          · rw [if_neg (fun z => ea (nI_inj (by omega) (by omega) z))]
            rcases R.2.1.1 a x (by omega) (by omega) with ⟨e1, e2⟩ | ⟨w', e1, e2, w1, w2⟩
            · rw [e2, if_pos (by decide)]
              exact .inl ⟨N8, fun v z => by
                rcases z with ⟨e, _⟩ | ⟨_, e, _⟩
                · exact ea e
                · exact e e1⟩
            · rw [e2, if_neg (c := nI w' ≤ (0 : Int32)) (fun z => by have := (nI_leI (a := w') (b := 0) (by omega) (by decide)).mp z; omega), nI_add, nI_toInt (by omega)]
              refine .inr ⟨.inr ⟨ea, by rw [e1]; exact nI_m1ne (by omega), by rw [e1, nI_toInt (by omega)]; omega⟩, fun v z => ?_⟩
              rcases z with ⟨e, _⟩ | ⟨_, _, e⟩
              · exact absurd e ea
              · rw [e1, nI_toInt (by omega)] at e
                omega
        · rw [if_neg (fun z => ex (by have := z.2.2; omega))]
          exact l0 x (by omega)
      · exact le k' hk' x hx
  -- the rows laid
  have lay : ∀ (mm i fu : Nat) (h3 : Hp), i + mm = 50 → mm < fu → FX [1022] [57, 58] H h3 → xFI h3 1022 0 = nI ti → (∀ j, j < i → xAI h3 57 0 j = 100000000) →
      SearchM h (L_X9_reaches_8 H (nI a) (nI ti) (nI nn) (K_X9_reaches_8 H (nI a) (nI ti) (nI nn)) fu h3 i) n0 nn a ti ∧ FX [1022] [57, 58] H (L_X9_reaches_8 H (nI a) (nI ti) (nI nn) (K_X9_reaches_8 H (nI a) (nI ti) (nI nn)) fu h3 i) := by
    intro mm
    induction mm with
    | zero =>
      intro i fu h3 hi hf q e22 hr
      obtain ⟨fu, rfl⟩ : ∃ g, fu = g + 1 := ⟨fu - 1, by omega⟩
      obtain rfl : i = 50 := by omega
      rw [L_X9_reaches_8_s]
      unfold B_X9_reaches_8 K_X9_reaches_8
      rw [if_pos (by decide)]
      refine first n0 0 _ h3 (by omega) (by omega) q e22 (fun x hx => absurd hx (Nat.not_lt_zero _)) (fun k' hk' s hs => ?_)
      unfold Em
      rw [hr _ (by omega)]
      exact N8
    | succ mm ih =>
      intro i fu h3 hi hf q e22 hr
      obtain ⟨fu, rfl⟩ : ∃ g, fu = g + 1 := ⟨fu - 1, by omega⟩
      rw [L_X9_reaches_8_s]
      unfold B_X9_reaches_8
      rw [if_neg (c := (50 : Int32) ≤ nI i) (fun z => by have := (nI_leI (a := 50) (b := i) (by decide) (by omega)).mp z; omega), nI_clamp (show i < 2 ^ 31 by omega)]
      refine ih (i + 1) fu _ (by omega) (by omega) ((q.trans (FX.sai (by decide))).trans (FX.sai (by decide))) e22 (fun j hj => ?_)
      rw [ai_ai, if_neg (fun z => absurd z.1 (by decide)), ai_ai]
      by_cases ej : j = i
      · rw [if_pos ⟨rfl, rfl, ej⟩]
      · rw [if_neg (fun z => ej z.2.2)]
        exact hr j (by omega)
  exact lay 50 0 _ (sFI H 1022 0 (nI ti)) (by omega) (by omega) (FX.sfi (by decide)) rfl (fun j hj => absurd hj (Nat.not_lt_zero _))
