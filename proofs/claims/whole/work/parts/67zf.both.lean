/-! ===== own: one way for both ===== -/
theorem hEc_of {h HC HM : Hp} {n0 n a b ti : Nat} (w : World h n0) (sm : Small h n0) (ha : a < n0) (hti : ti ≤ 140000) (c : SearchC h HC n0 n a b ti) (m : SearchM h HM n0 n a ti) : ∀ k, k ≠ 0 → k ≤ n → ∀ s, s < n0 → 0 ≤ Ec HC k s ∧ (Ec HC k s ≤ 300000 ∨ Ec HC k s = 1000000000) := by
  intro k k0 kn s hs
  have := ((meet w sm ha hti c m k kn).2 k0 s hs).2
  omega
theorem hEm_of {h HC HM : Hp} {n0 n a b ti : Nat} (w : World h n0) (sm : Small h n0) (ha : a < n0) (hti : ti ≤ 140000) (c : SearchC h HC n0 n a b ti) (m : SearchM h HM n0 n a ti) : ∀ k, k ≠ 0 → k ≤ n → ∀ s, s < n0 → 0 ≤ Em HM k s ∧ Em HM k s ≤ 100000000 := by
  intro k k0 kn s hs
  obtain ⟨r, q⟩ := (meet w sm ha hti c m k kn).2 k0 s hs
  rcases r with ⟨e, _⟩ | ⟨_, e⟩ <;> omega
theorem ways {h HC HM : Hp} {n0 n a b ti : Nat} (R : RC h) (hs0 : RStop h n0) (w : World h n0) (ha : a < n0) (hb : b < n0) (hti : ti ≤ 140000) (hn : n ≠ 0) (hn4 : n ≤ 4) (c : SearchC h HC n0 n a b ti) (m : SearchM h HM n0 n a ti) (he : F_X5_end HC (nI n) < 1000000000) :
    ∃ at' t d i j : Nat → Nat, Way h n0 (Rc HC) (Ec HC) (ti / 1440 - 1) (ti / 1440 + 1) b n (F_X5_end HC (nI n)).toInt at' t d i j ∧ Way h n0 (Rm HM) (Em HM) (ti / 1440 - 1) (ti / 1440 + 1) b n (F_X5_end HC (nI n)).toInt at' t d i j ∧
      F_X9_timeBy HM (nI b) (nI n) = F_X5_end HC (nI n) ∧ 0 ≤ (F_X5_end HC (nI n)).toInt ∧ (F_X5_end HC (nI n)).toInt ≤ 400000 := by
  have sm := small_of R hs0
  obtain ⟨rl, lo⟩ := meet_end R hs0 w ha hb hti hn4 c m (Nat.le_refl n) hn
  rw [Int32.lt_iff_toInt_lt, N9] at he
  have e1 := rl.some he
  have e2 : 0 ≤ (F_X5_end HC (nI n)).toInt ∧ (F_X5_end HC (nI n)).toInt ≤ 300000 := by
    rcases rl with ⟨_, x, y⟩ | ⟨x, _⟩
    · exact ⟨x, y⟩
    · omega
  have eq : EndQ h n0 (Ec HC n) b (F_X5_end HC (nI n)).toInt := by
    rcases lo with ⟨x, _⟩ | ⟨x, _⟩
    · omega
    · exact x
  obtain ⟨s, ls⟩ := LSt.ex hb eq
  obtain ⟨o1, o2⟩ := ls.2.1
  have := (toB_sm sm hb ls.1).resolve_left o1
  obtain ⟨at', t, d, i, j, ea, g⟩ := way_ex w sm hti c n (Nat.le_refl _) s ls.1 (fun _ => by omega)
  have wy : Way h n0 (Rc HC) (Ec HC) (ti / 1440 - 1) (ti / 1440 + 1) b n (F_X5_end HC (nI n)).toInt at' t d i j := ⟨by rw [ea]; exact ls, g⟩
  refine ⟨at', t, d, i, j, wy, ?_, Int32.toInt_inj.mp e1, e2.1, by omega⟩
  exact wy.rel w sm hb (by omega) hn (by omega) (fun k hk => (meet w sm ha hti c m k hk).1) (fun k hk hk0 x hx => ((meet w sm ha hti c m k hk).2 hk0 x hx).1)
/-- both journeys: none, or told alike -/
theorem both {S : Nat → Int32} {N : Nat} {h : Hp} (I : Inv S N h) {n0 a b ti n : Nat} (hs0 : RStop h n0) (w : World h n0) (ha : a < n0) (hb : b < n0) (hti : ti ≤ 140000) (hn : n ≠ 0) (hn4 : n ≤ 4) {HC H : Hp} (c : SearchC h HC n0 n a b ti) (mH : MA h H) :
    (F_X5_tell HC n = (none, HC) ∧ ∃ Y, F_X9_finds H (nI a) (nI b) (nI ti) n = (0, Y) ∧ FX [1021, 1022, 1023] [57, 58, 59, 60, 61, 62, 63] H Y) ∨
    ∃ T Y at' t d i j, F_X5_tell HC n = (some (xCN HC 3), T) ∧ F_X9_finds H (nI a) (nI b) (nI ti) n = (1, Y) ∧ FX [1021, 1022, 1023] [57, 58, 59, 60, 61, 62, 63] H Y ∧ ToldC h HC T n a b ti (F_X5_end HC (nI n)) at' t d i j ∧ Found h Y n a b ti (F_X5_end HC (nI n)) at' t d i j ∧
      Way h n0 (Rc HC) (Ec HC) (ti / 1440 - 1) (ti / 1440 + 1) b n (F_X5_end HC (nI n)).toInt at' t d i j ∧ 0 ≤ (F_X5_end HC (nI n)).toInt ∧ (F_X5_end HC (nI n)).toInt ≤ 400000 := by
  have sm0 := small_of I.R hs0
  obtain ⟨sm, fx⟩ := reaches_spec (nn := n) I.W I.R hs0 w mH ha hti hn4
  by_cases he : F_X5_end HC (nI n) < 1000000000
  · obtain ⟨at', t, d, i, j, wy, wm, et, b1, b2⟩ := ways I.R hs0 w ha hb hti hn hn4 c sm he
    obtain ⟨T, eT, tT⟩ := tell_told w sm0 ha hb hti hn hn4 c b2 wy (hEc_of w sm0 ha hti c sm)
    obtain ⟨Y, eY, fY, tY⟩ := finds_some I.W I.R hs0 w ha hb hti hn hn4 sm fx sm.2.2.2 et b2 wm (hEm_of w sm0 ha hti c sm)
    exact .inr ⟨T, Y, at', t, d, i, j, eT, eY, fY, tT, tY, wy, b1, b2⟩
  · refine .inl ⟨tell_none he, ?_⟩
    obtain ⟨rl, -⟩ := meet_end I.R hs0 w ha hb hti hn4 c sm (Nat.le_refl n) hn
    rw [Int32.lt_iff_toInt_lt, N9] at he
    have e0 : F_X9_timeBy (F_X9_reaches H (nI a) (nI ti) (nI n)) (nI b) (nI n) = 100000000 := Int32.toInt_inj.mp ((rl.none.mp (by omega)).trans N8.symm)
    exact ⟨_, finds_none e0, ((fx.mono (by decide) (by decide)).trans (FX.sfi (by decide))).trans (FX.sfi (by decide))⟩
