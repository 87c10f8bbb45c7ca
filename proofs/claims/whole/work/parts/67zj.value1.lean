/-! ===== own: chance, carbon and score of a journey told ===== -/
/-- a journey told, seen from its own heap: object jj, its rides from c on -/
theorem chance_tr {S : Nat → Int32} {N : Nat} {T Y : Hp} (IT : Inv S N T) (mY : MA T Y) {t : Nat} (ht : t < xLS T 11) (mi : Int32) : F_X7_chanceWithin T t mi = F_X9_chanceOf Y (nI t) mi := by
  have h20 := IT.W.t20
  obtain ⟨⟨m0, -, htr⟩, -⟩ := IT.R
  obtain ⟨-, -, -, -, -, -, cc, c30, e1, e2, e3⟩ := htr t ht
  have e2' : xAI Y 52 0 t = nI cc := (mY.2 52 (by decide) 0 t).trans e2
  have key : ∀ (m fu fu' k : Nat) (w : Int32), k + m = cc → m < fu → m < fu' → L_X7_chanceWithin_13 T t mi (K_X7_chanceWithin_13 T t mi) fu' w k = L_X9_chanceOf_16 Y (nI t) mi fu w k := by
    intro m
    induction m with
    | zero =>
      intro fu fu' k w hk h1 h2
      obtain ⟨fu, rfl⟩ : ∃ g, fu = g + 1 := ⟨fu - 1, by omega⟩
      obtain ⟨fu', rfl⟩ : ∃ g, fu' = g + 1 := ⟨fu' - 1, by omega⟩
      obtain rfl : k = cc := by omega
      rw [L_X9_chanceOf_16_s, L_X7_chanceWithin_13_s]
      unfold B_X9_chanceOf_16 B_X7_chanceWithin_13 K_X7_chanceWithin_13
      rw [nI_clamp (show t < 2 ^ 31 by omega), e2', e1, if_pos (Int32.le_refl _), if_pos (Int32.le_refl _)]
    | succ m ih =>
      intro fu fu' k w hk h1 h2
      obtain ⟨fu, rfl⟩ : ∃ g, fu = g + 1 := ⟨fu - 1, by omega⟩
      obtain ⟨fu', rfl⟩ : ∃ g, fu' = g + 1 := ⟨fu' - 1, by omega⟩
      have lt : ¬ nI cc ≤ nI k := fun z => by
        have := (nI_leI (by omega) (by omega)).mp z
        omega
      rw [L_X9_chanceOf_16_s, L_X7_chanceWithin_13_s]
      unfold B_X9_chanceOf_16 B_X7_chanceWithin_13
      rw [nI_clamp (show t < 2 ^ 31 by omega), e2', e1, if_neg lt, if_neg lt, at_in T (n := 30) (by decide) rfl (by omega) (by decide), xi30, nI_clamp (show 30 * t + k < 2 ^ 31 by omega), mY.2 53 (by decide), ← e3 k (by omega)]
      by_cases c : mi < xAI T 33 t k
      · rw [if_pos c, if_pos c, Int32.add_zero]
        exact ih fu fu' (k + 1) w (by omega) (by omega) (by omega)
      · rw [if_neg c, if_neg c]
        exact ih fu fu' (k + 1) (w + 1) (by omega) (by omega) (by omega)
  unfold F_X7_chanceWithin F_X9_chanceOf
  rw [nI_clamp (show t < 2 ^ 31 by omega), e2', e1]
  by_cases c : nI cc = 0
  · rw [if_pos c, if_pos c]
  · rw [if_neg c, if_neg c]
    exact key cc _ _ 0 0 (by omega) (by omega) (by omega)
theorem chance_eq {S : Nat → Int32} {N : Nat} {T Y HC : Hp} (IT : Inv S N T) {n0 fd ld a b n ti : Nat} {e : Int} {e' : Int32} {R E : Nat → Nat → Int} {at' t d i j : Nat → Nat} (w : World T n0) (mY : MA T Y) (hld : ld < 100) (wy : Way T n0 R E fd ld b n e at' t d i j)
    (tT : ToldC T HC T n a b ti e' at' t d i j) (fY : Found T Y n a b ti e' at' t d i j) (hn : n ≠ 0) (hn4 : n ≤ 4) {jj : Nat} : F_X2_chance T jj (rls T (xCN HC 3)) = F_X9_chance Y := by
  have h20 := IT.W.t20
  have tr_at : ∀ x, x < n → tr T (rid (xCN HC 5) n x) = t x := fun x hx => by
    unfold tr
    rw [(tT.2.2.2.2.2.2.2.2 x hx).1]
    rfl
  have nx_at : ∀ x, x + 1 < n → nx T (rid (xCN HC 5) n x) = rid (xCN HC 5) n (x + 1) := fun x hx => by
    unfold nx
    rw [(tT.2.2.2.2.2.2.2.2 x (by omega)).2.2.2.2.2, if_pos hx]
    rfl
  have e21 := fY.1
  have key : ∀ (m x fu : Nat) (R0 : List Nat) (c : UInt64), x + (m + 1) = n → m < fu → L_X2_chance_7 T jj R0 (K_X2_chance_7 T jj R0) ((List.range' x (m + 1)).map (rid (xCN HC 5) n)) c = L_X9_chance_4 Y fu c (x + 1) := by
    intro m
    induction m with
    | zero =>
      intro x fu R0 c hx h1
      obtain ⟨fu, rfl⟩ : ∃ g, fu = g + 1 := ⟨fu - 1, by omega⟩
      show B_X2_chance_7 T jj R0 (K_X2_chance_7 T jj R0) (L_X2_chance_7 T jj R0 (K_X2_chance_7 T jj R0) []) (rid (xCN HC 5) n x) c = _
      rw [L_X9_chance_4_s]
      unfold B_X2_chance_7 B_X9_chance_4
      rw [if_pos (by rw [(tT.2.2.2.2.2.2.2.2 x (by omega)).2.2.2.2.2, if_neg (by omega)]), if_pos (by
        rw [e21]
        exact (nI_leI (by omega) (by omega)).mpr (by omega))]
      rfl
    | succ m ih =>
      intro x fu R0 c hx h1
      obtain ⟨fu, rfl⟩ : ∃ g, fu = g + 1 := ⟨fu - 1, by omega⟩
      show B_X2_chance_7 T jj R0 (K_X2_chance_7 T jj R0) (L_X2_chance_7 T jj R0 (K_X2_chance_7 T jj R0) ((List.range' (x + 1) (m + 1)).map (rid (xCN HC 5) n))) (rid (xCN HC 5) n x) c = _
      obtain ⟨p1, p2, p3, p4, p5⟩ := wy.pl w hld (x := x) (by omega)
      obtain ⟨r1, r2, r3, r4, r5⟩ := wy.pl w hld (x := x + 1) (by omega)
      obtain ⟨q1, q2, q3, q4, q5, q6⟩ := tT.2.2.2.2.2.2.2.2 x (by omega)
      obtain ⟨s1, s2, s3, s4, s5, s6⟩ := tT.2.2.2.2.2.2.2.2 (x + 1) (by omega)
      obtain ⟨y1, y2, y3, y4, y5⟩ := fY.2.2.2.2 x (by omega)
      obtain ⟨z1, z2, z3, z4, z5⟩ := fY.2.2.2.2 (x + 1) (by omega)
      rw [L_X9_chance_4_s]
      unfold B_X2_chance_7 B_X9_chance_4 F_X4_departs F_X4_arrives
      rw [if_neg (by rw [q6, if_pos (by omega)]; intro z; cases z), if_neg (by
        rw [e21]
        intro z
        have := (nI_leI (by omega) (by omega)).mp z
        omega), tr_at x (by omega), nx_at x (by omega), tr_at (x + 1) (by omega), q2, q4, s2, s3, s5, nI_m1, nI_clamp (show x < 2 ^ 31 by omega), nI_clamp (show x + 1 < 2 ^ 31 by omega), y1, y2, y4, z1, z2, z3, z5, dep_pl IT.W IT.R w mY r1 r2 (by omega), arr_pl IT.W IT.R w mY p1 p2 p4 (by omega), Int32.sub_sub, chance_tr IT mY p1]
      exact ih (x + 1) fu R0 _ (by omega) (by omega)
  unfold F_X2_chance F_X9_chance
  rw [tT.2.2.2.2.2.2.2.1]
  obtain ⟨m, rfl⟩ : ∃ m, n = m + 1 := ⟨n - 1, by omega⟩
  exact key m 0 _ _ _ (by omega) (by omega)
theorem cy_14 : FP.i2d 14 = (4624070917402656768 : UInt64) := by decide +kernel
theorem cy_30 : FP.i2d 30 = (4629137466983448576 : UInt64) := by decide +kernel
theorem cy_120 : FP.i2d 120 = (4638144666238189568 : UInt64) := by decide +kernel
theorem carbon_eq {S : Nat → Int32} {N : Nat} {T Y HC : Hp} (IT : Inv S N T) {n0 fd ld a b n ti : Nat} {e : Int} {e' : Int32} {R E : Nat → Nat → Int} {at' t d i j : Nat → Nat} (w : World T n0) (mA : ∀ s, s ∉ scA → ∀ i j, xAI Y s i j = xAI T s i j) (hld : ld < 100) (wy : Way T n0 R E fd ld b n e at' t d i j)
    (tT : ToldC T HC T n a b ti e' at' t d i j) (fY : Found T Y n a b ti e' at' t d i j) (hn4 : n ≤ 4) {jj : Nat} : F_X2_carbon T jj (rls T (xCN HC 3)) = F_X9_carbon Y := by
  have h20 := IT.W.t20
  have tr_at : ∀ x, x < n → tr T (rid (xCN HC 5) n x) = t x := fun x hx => by
    unfold tr
    rw [(tT.2.2.2.2.2.2.2.2 x hx).1]
    rfl
  have e21 := fY.1
  have c15 := IT.R.2.2.2.2.2.2.2.2
  have htr := IT.R.1
  obtain ⟨m0, -, htr⟩ := htr
  have rate : ∀ u, u < xLS T 11 → FP.i2d (F_at T 15 0 (xFI T 801 u)) = if (xAI Y 42 0 u) = 0 then (4624070917402656768 : UInt64) else (if (xAI Y 42 0 u) = 1 then 4629137466983448576 else 4638144666238189568) := by
    intro u hu
    obtain ⟨-, ⟨k, hk, e1, e2⟩, -⟩ := htr u hu
    rw [mA 42 (by decide), e1, e2, at_in T (n := 3) (by decide) rfl hk (by decide)]
    rcases (show k = 0 ∨ k = 1 ∨ k = 2 by omega) with rfl | rfl | rfl
    · rw [c15.1, cy_14, if_pos (show nI 0 = 0 from rfl)]
    · rw [c15.2.1, cy_30, if_neg (by decide), if_pos (show nI 1 = 1 from rfl)]
    · rw [c15.2.2, cy_120, if_neg (by decide), if_neg (by decide)]
  have key : ∀ (m x fu : Nat) (R0 : List Nat) (c : UInt64), x + m = n → m < fu → L_X2_carbon_7 T jj R0 ((List.range' x m).map (rid (xCN HC 5) n)) c = L_X9_carbon_4 Y fu c x := by
    intro m
    induction m with
    | zero =>
      intro x fu R0 c hx h1
      obtain ⟨fu, rfl⟩ : ∃ g, fu = g + 1 := ⟨fu - 1, by omega⟩
      rw [L_X9_carbon_4_s]
      unfold B_X9_carbon_4
      rw [if_pos (by
        rw [e21]
        exact (nI_leI (by omega) (by omega)).mpr (by omega))]
      rfl
    | succ m ih =>
      intro x fu R0 c hx h1
      obtain ⟨fu, rfl⟩ : ∃ g, fu = g + 1 := ⟨fu - 1, by omega⟩
      show B_X2_carbon_7 T jj R0 (L_X2_carbon_7 T jj R0 ((List.range' (x + 1) m).map (rid (xCN HC 5) n))) (rid (xCN HC 5) n x) c = _
      obtain ⟨p1, p2, p3, p4, p5⟩ := wy.pl w hld (x := x) (by omega)
      obtain ⟨q1, q2, q3, q4, q5, q6⟩ := tT.2.2.2.2.2.2.2.2 x (by omega)
      obtain ⟨y1, y2, y3, y4, y5⟩ := fY.2.2.2.2 x (by omega)
      rw [L_X9_carbon_4_s]
      unfold B_X2_carbon_7 B_X9_carbon_4 F_X4_length
      rw [if_neg (by
        rw [e21]
        intro z
        have := (nI_leI (by omega) (by omega)).mp z
        omega), tr_at x (by omega), q3, q4, nI_clamp (show x < 2 ^ 31 by omega), y1, y3, y4, nI_clamp (show t x < 2 ^ 31 by omega), rate (t x) p1]
      exact ih (x + 1) fu R0 _ (by omega) (by omega)
  unfold F_X2_carbon F_X9_carbon
  rw [tT.2.2.2.2.2.2.2.1]
  exact key n 0 _ _ _ (by omega) (by omega)
theorem score_eq {S : Nat → Int32} {N : Nat} {T Y HC : Hp} (IT : Inv S N T) {n0 fd ld a b n ti : Nat} {e : Int} {e' : Int32} {R E : Nat → Nat → Int} {at' t d i j : Nat → Nat} (w : World T n0) (mA : ∀ s, s ∉ scA → ∀ i j, xAI Y s i j = xAI T s i j) (hld : ld < 100) (wy : Way T n0 R E fd ld b n e at' t d i j)
    (tT : ToldC T HC T n a b ti e' at' t d i j) (fY : Found T Y n a b ti e' at' t d i j) (hn4 : n ≤ 4) : F_X2_score T (xCN HC 3) (rls T (xCN HC 3)) = F_X9_score Y := by
  unfold F_X2_score F_X9_score
  rw [carbon_eq IT w mA hld wy tT fY hn4, tT.2.2.2.1, tT.2.2.2.2.1, tT.2.2.2.2.2.2.1, fY.1, fY.2.1, fY.2.2.1]
