/-! ===== own: chances are parts; which numbers of rides are in front ===== -/
theorem un_within {h : Hp} {t c : Nat} {mi : Int32} (hc : xFI h 811 t = nI c) (c30 : c ≤ 30) : UN (F_X7_chanceWithin h t mi) := by
  unfold F_X7_chanceWithin
  by_cases c0 : c = 0
  · rw [hc, c0, if_pos (show nI 0 = 0 from rfl)]
    exact un_one
  · rw [if_neg (fun z => by rw [hc] at z; have := nI_inj (b := 0) (by omega) (by decide) z; omega)]
    have key : ∀ (m i fu w : Nat), i + m = c → m < fu → w ≤ i → UN (L_X7_chanceWithin_13 h t mi (K_X7_chanceWithin_13 h t mi) fu (nI w) i) := by
      intro m
      induction m with
      | zero =>
        intro i fu w hi hf hw
        obtain ⟨fu, rfl⟩ : ∃ g, fu = g + 1 := ⟨fu - 1, by omega⟩
        rw [L_X7_chanceWithin_13_s]
        unfold B_X7_chanceWithin_13
        rw [hc, if_pos (by rw [← hi, Nat.add_zero]; exact Int32.le_refl _)]
        unfold K_X7_chanceWithin_13
        rw [hc]
        exact un_div (by omega) c0 (by omega)
      | succ m ih =>
        intro i fu w hi hf hw
        obtain ⟨fu, rfl⟩ : ∃ g, fu = g + 1 := ⟨fu - 1, by omega⟩
        rw [L_X7_chanceWithin_13_s]
        unfold B_X7_chanceWithin_13
        rw [hc, if_neg (fun z => by have := (nI_leI (by omega) (by omega)).mp z; omega)]
        split
        · exact ih (i + 1) fu w (by omega) (by omega) (by omega)
        · rw [nI_1 w]
          exact ih (i + 1) fu (w + 1) (by omega) (by omega) (by omega)
    exact key c 0 _ 0 (by omega) (by omega) (Nat.le_refl _)
theorem un_chance {h : Hp} {j : Nat} {R0 : List Nat} : ∀ (Q : List Nat) (c : UInt64), (∀ r, r ∈ Q → ∃ k, k ≤ 30 ∧ xFI h 811 (tr h r) = nI k) → UN c → UN (L_X2_chance_7 h j R0 (K_X2_chance_7 h j R0) Q c) := by
  intro Q
  induction Q with
  | nil => intro c _ u; exact u
  | cons r Q ih =>
    intro c hq u
    rw [L_X2_chance_7_s]
    unfold B_X2_chance_7
    split
    · exact u
    · obtain ⟨k, k1, k2⟩ := hq r List.mem_cons_self
      exact ih _ (fun r' hr' => hq r' (List.mem_cons_of_mem _ hr')) (un_mul u (un_within k2 k1))
theorem v_chance {h : Hp} {n0 a b ti n : Nat} {T : Hp} {at' t d i j : Nat → Nat} (R : RC h) (q : WA h n0 a b ti) (h1 : 1 ≤ n) (h4 : n ≤ 4) (J : Jn h n0 a b ti n T at' t d i j) : UN (V_journey h (nI a) (nI b) (nI ti) (nI n) 0) ∧ (n = 1 → V_journey h (nI a) (nI b) (nI ti) (nI n) 0 = FP.dconst1) := by
  have ncl : (nI n).toNatClampNeg = n := nI_clamp (by omega)
  have fx := (q.sc (n := n) h4).1
  have tq := J.tq
  have pl := fun x (hx : x < n) => J.pl q hx
  obtain ⟨J1, J2, J3⟩ := J
  obtain ⟨u1, u2, u3, u4, u5, u6, u7, u8, u9⟩ := J2
  have e : V_journey h (nI a) (nI b) (nI ti) (nI n) 0 = F_X2_chance T (xCN (F_X5_seek h (nI a) (nI b) (nI ti) (nI n)) 3) (rls T (xCN (F_X5_seek h (nI a) (nI b) (nI ti) (nI n)) 3)) := by
    unfold V_journey F_X8_journey
    rw [if_pos q.ok, if_pos (okn_mk h1 h4), if_pos (show okR (0 : Int32) 0 3 by decide), ncl, J1]
    dsimp only
    rw [if_neg (fun z => nomatch z), if_pos rfl]
    rfl
  rw [e, u8]
  constructor
  · unfold F_X2_chance
    refine un_chance _ _ (fun r hr => ?_) un_one
    obtain ⟨x, -, hx, rfl⟩ := rg_mem _ _ _ hr
    have hx : x < n := by omega
    obtain ⟨⟨m, -, htr⟩, -⟩ := R
    obtain ⟨k, k1, k2⟩ := (htr _ (pl x hx).1).2.2.2.2.2
    have et : tr T (rid (xCN (F_X5_seek h (nI a) (nI b) (nI ti) (nI n)) 5) n x) = t x := by unfold tr; rw [(u9 x hx).1]; rfl
    exact ⟨k, k1, by rw [et, tq.2.1 811 (by decide) (by decide), fx.2.1 811 (by decide)]; exact k2⟩
  · intro hn
    subst hn
    unfold F_X2_chance
    show L_X2_chance_7 T _ _ _ (rid (xCN (F_X5_seek h (nI a) (nI b) (nI ti) (nI 1)) 5) 1 0 :: []) FP.dconst1 = _
    rw [L_X2_chance_7_s]
    unfold B_X2_chance_7
    rw [if_pos (by rw [(u9 0 (by omega)).2.2.2.2.2, if_neg (by omega)])]
    rfl
theorem front_bits : ∀ m : Fin 32, ∀ r : Fin 5, ((nI m.1 >>> (nI r.1 &&& 31)) &&& 1) = if Nat.testBit m.1 r.1 then 1 else 0 := by decide +kernel
theorem front_30 : ∀ m : Fin 32, m.1 % 2 = 0 → m.1 ≠ 0 → 0 < (nI m.1 &&& 30) := by decide +kernel
theorem front_loop {h K : Hp} {a b ti : Int32} (hK : F_X5_seek h a b ti 4 = K) : ∀ (mm k fu : Nat) (le : Int32) (s : Nat), k + mm = 5 → 1 ≤ k → mm < fu → le ≤ 1000000000 → s < 2 ^ k → s % 2 = 0 → (∀ j, s.testBit j = true → F_X5_end K (nI j) < 1000000000) → (le < 1000000000 → s ≠ 0) → ((∃ j, 1 ≤ j ∧ j < k ∧ F_X5_end K (nI j) < 1000000000) → s ≠ 0) →
    ∃ m, m < 32 ∧ m % 2 = 0 ∧ (L_X8_front_28 h a b ti fu le (nI s) k).1 = .inl (some (.inl (.int (nI m)))) ∧ (∀ j, m.testBit j = true → F_X5_end K (nI j) < 1000000000) ∧ ((∃ j, 1 ≤ j ∧ j ≤ 4 ∧ F_X5_end K (nI j) < 1000000000) → m ≠ 0) := by
  intro mm
  induction mm with
  | zero =>
    intro k fu le s hk h1 hf hle hs h2 hb hl he
    obtain ⟨fu, rfl⟩ : ∃ g, fu = g + 1 := ⟨fu - 1, by omega⟩
    obtain rfl : k = 5 := by omega
    rw [L_X8_front_28_s]
    unfold B_X8_front_28
    rw [if_pos (show (4 : Int32) < nI 5 by decide)]
    exact ⟨s, by omega, h2, rfl, hb, fun ⟨j, j1, j2, j3⟩ => he ⟨j, j1, by omega, j3⟩⟩
  | succ mm ih =>
    intro k fu le s hk h1 hf hle hs h2 hb hl he
    obtain ⟨fu, rfl⟩ : ∃ g, fu = g + 1 := ⟨fu - 1, by omega⟩
    rw [L_X8_front_28_s]
    unfold B_X8_front_28
    rw [if_neg (fun z => by have := (nI_ltI (a := 4) (by decide) (by omega)).mp z; omega), hK]
    have hp : 2 ^ (k + 1) = 2 ^ k + 2 ^ k := by rw [Nat.pow_succ]; omega
    by_cases c : le ≤ F_X5_end K (nI k)
    · rw [if_pos c]
      refine ih (k + 1) fu le s (by omega) (by omega) (by omega) hle (by omega) h2 hb hl (fun ⟨j, j1, j2, j3⟩ => ?_)
      by_cases cj : j = k
      · subst cj
        exact hl (Int32.lt_of_le_of_lt c j3)
      · exact he ⟨j, j1, by omega, j3⟩
    · rw [if_neg c, shl1 k (by omega), nI_add]
      have c' : F_X5_end K (nI k) < le := Int32.not_le.mp c
      have e9 : F_X5_end K (nI k) < 1000000000 := Int32.lt_of_lt_of_le c' hle
      have hpos : 0 < 2 ^ k := Nat.two_pow_pos k
      refine ih (k + 1) fu _ (s + 2 ^ k) (by omega) (by omega) (by omega) (Int32.le_of_lt e9) (by omega) ?_ (fun j hj => ?_) (fun _ => by omega) (fun _ => by omega)
      · obtain ⟨k', rfl⟩ : ∃ k', k = k' + 1 := ⟨k - 1, by omega⟩
        rw [Nat.pow_succ]
        omega
      · rw [Nat.add_comm] at hj
        rcases Nat.lt_trichotomy j k with cj | cj | cj
        · rw [Nat.testBit_two_pow_add_gt cj] at hj
          exact hb j hj
        · rw [cj]; exact e9
        · exfalso
          have : 2 ^ k + s < 2 ^ j := Nat.lt_of_lt_of_le (show 2 ^ k + s < 2 ^ (k + 1) by omega) (Nat.pow_le_pow_right (by decide) cj)
          rw [Nat.testBit_lt_two_pow this] at hj
          exact absurd hj (by decide)
theorem v_front {h : Hp} {n0 a b ti : Nat} (q : WA h n0 a b ti) : (∀ n, 1 ≤ n → n ≤ 4 → ¬ EE h a b ti n < 1000000000 → ((V_front h (nI a) (nI b) (nI ti) >>> (nI n &&& 31)) &&& 1) = 0) ∧ ((∃ n, 1 ≤ n ∧ n ≤ 4 ∧ EE h a b ti n < 1000000000) → 0 < (V_front h (nI a) (nI b) (nI ti) &&& 30)) := by
  have ee := fun n (h1 : 1 ≤ n) (h4 : n ≤ 4) => q.ee h1 h4 (Nat.le_refl 4)
  have eF : V_front h (nI a) (nI b) (nI ti) = rsI (L_X8_front_28 h (nI a) (nI b) (nI ti) (2147483648 - 1 + 1) 1000000000 0 1).1 := by
    unfold V_front F_X8_front
    rw [if_pos q.ok]
  rw [eF]
  rw [show nI 4 = (4 : Int32) from rfl] at ee
  generalize hK : F_X5_seek h (nI a) (nI b) (nI ti) 4 = K at ee
  obtain ⟨m, m1, m2, m3, m4, m5⟩ := front_loop hK 4 1 (2147483648 - 1 + 1) 1000000000 0 (by omega) (by omega) (by omega) (Int32.le_refl _) (by decide) (by decide) (fun j hj => by rw [Nat.zero_testBit] at hj; exact absurd hj (by decide)) (fun z => absurd z Int32.lt_irrefl) (fun ⟨j, j1, j2, _⟩ => by omega)
  have m3' : (L_X8_front_28 h (nI a) (nI b) (nI ti) (2147483648 - 1 + 1) 1000000000 0 1).1 = .inl (some (.inl (.int (nI m)))) := m3
  rw [m3']
  constructor
  · intro n h1 h4 he
    show ((nI m >>> (nI n &&& 31)) &&& 1) = 0
    rw [front_bits ⟨m, m1⟩ ⟨n, by omega⟩]
    split
    · rename_i z
      have := m4 n z
      rw [ee n h1 h4] at this
      exact absurd this he
    · rfl
  · rintro ⟨n, h1, h4, he⟩
    exact front_30 ⟨m, m1⟩ m2 (m5 ⟨n, h1, h4, by rw [ee n h1 h4]; exact he⟩)
