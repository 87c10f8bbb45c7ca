/-! ===== own: a booking ===== -/
/-- what the reference's booking writes: number B, n rides -/
def BkM (Y W : Hp) (B n fv : Nat) (ti : Int32) : Prop :=
  SR Y W ∧ (∀ f i, xFI W f i = xFI Y f i) ∧ (∀ s i j, (s < 66 ∨ 75 < s) ∨ i ≠ 0 → xAI W s i j = xAI Y s i j) ∧ (∀ s, 66 ≤ s → s ≤ 70 → ∀ j, j ≠ B → xAI W s 0 j = xAI Y s 0 j) ∧
  (xAI W 66 0 B = nI fv ∧ xAI W 67 0 B = nI n ∧ xAI W 68 0 B = xFI Y 1030 0 ∧ xAI W 69 0 B = ti ∧ xAI W 70 0 B = xFI Y 1023 0) ∧
  (∀ s, 71 ≤ s → s ≤ 74 → ∀ j, (j < 4 * B ∨ 4 * B + n ≤ j) → xAI W s 0 j = xAI Y s 0 j) ∧
  (∀ x, x < n → xAI W 71 0 (4 * B + x) = xAI Y 59 0 x ∧ xAI W 72 0 (4 * B + x) = xAI Y 60 0 x ∧ xAI W 73 0 (4 * B + x) = xAI Y 61 0 x ∧ xAI W 74 0 (4 * B + x) = xAI Y 62 0 x) ∧
  (∀ j, (j < 5 * B ∨ 5 * B + n < j) → xAI W 75 0 j = xAI Y 75 0 j) ∧ ∀ x, x ≤ n → xAI W 75 0 (5 * B + x) = xAI Y 63 0 x
theorem wr_rides {A Z0 : Hp} {a b ti : Int32} {n B : Nat} (hB : B < 30) (hn4 : n ≤ 4) {kx : Hp → Int32 → Nat → (Int32 × Hp)} : ∀ (m k fu : Nat) (Z : Hp), k + m = n → m < fu → FX [] [71, 72, 73, 74] Z0 Z → (∀ s i j, i ≠ 0 → xAI Z s i j = xAI Z0 s i j) → (∀ s, 71 ≤ s → s ≤ 74 → ∀ j, (j < 4 * B ∨ 4 * B + k ≤ j) → xAI Z s 0 j = xAI Z0 s 0 j) →
    (∀ x, x < k → xAI Z 71 0 (4 * B + x) = xAI Z0 59 0 x ∧ xAI Z 72 0 (4 * B + x) = xAI Z0 60 0 x ∧ xAI Z 73 0 (4 * B + x) = xAI Z0 61 0 x ∧ xAI Z 74 0 (4 * B + x) = xAI Z0 62 0 x) →
    ∃ Z1, L_X9_book_184 A a b ti (nI n) kx fu Z (nI B) k = kx Z1 (nI B) n ∧ FX [] [71, 72, 73, 74] Z0 Z1 ∧ (∀ s i j, i ≠ 0 → xAI Z1 s i j = xAI Z0 s i j) ∧ (∀ s, 71 ≤ s → s ≤ 74 → ∀ j, (j < 4 * B ∨ 4 * B + n ≤ j) → xAI Z1 s 0 j = xAI Z0 s 0 j) ∧
    (∀ x, x < n → xAI Z1 71 0 (4 * B + x) = xAI Z0 59 0 x ∧ xAI Z1 72 0 (4 * B + x) = xAI Z0 60 0 x ∧ xAI Z1 73 0 (4 * B + x) = xAI Z0 61 0 x ∧ xAI Z1 74 0 (4 * B + x) = xAI Z0 62 0 x) := by
  intro m
  induction m with
  | zero =>
    intro k fu Z hk hf q1 q0 q2 q3
    obtain ⟨fu, rfl⟩ : ∃ g, fu = g + 1 := ⟨fu - 1, by omega⟩
    obtain rfl : k = n := by omega
    refine ⟨Z, ?_, q1, q0, q2, q3⟩
    rw [L_X9_book_184_s]
    unfold B_X9_book_184
    rw [if_pos (Int32.le_refl _)]
  | succ m ih =>
    intro k fu Z hk hf q1 q0 q2 q3
    obtain ⟨fu, rfl⟩ : ∃ g, fu = g + 1 := ⟨fu - 1, by omega⟩
    rw [L_X9_book_184_s]
    unfold B_X9_book_184
    rw [if_neg (fun z => by
      have := (nI_leI (by omega) (by omega)).mp z
      omega), xi4, nI_clamp (show 4 * B + k < 2 ^ 31 by omega), nI_clamp (show k < 2 ^ 31 by omega)]
    refine ih (k + 1) fu _ (by omega) (by omega) ((((q1.trans (FX.sai (by decide))).trans (FX.sai (by decide))).trans (FX.sai (by decide))).trans (FX.sai (by decide))) (fun s i j hi => ?_) (fun s s1 s2 j hj => ?_) (fun x hx => ?_)
    · rw [ai_ai, if_neg (fun z => hi z.2.1), ai_ai, if_neg (fun z => hi z.2.1), ai_ai, if_neg (fun z => hi z.2.1), ai_ai, if_neg (fun z => hi z.2.1)]
      exact q0 s i j hi
    · rw [ai_nj (by omega), ai_nj (by omega), ai_nj (by omega), ai_nj (by omega)]
      exact q2 s s1 s2 j (by omega)
    · by_cases w : x = k
      · subst w
        have r59 : xAI Z 59 0 x = xAI Z0 59 0 x := q1.2.2 59 (by decide) 0 x
        have r60 : xAI Z 60 0 x = xAI Z0 60 0 x := q1.2.2 60 (by decide) 0 x
        have r61 : xAI Z 61 0 x = xAI Z0 61 0 x := q1.2.2 61 (by decide) 0 x
        have r62 : xAI Z 62 0 x = xAI Z0 62 0 x := q1.2.2 62 (by decide) 0 x
        refine ⟨?_, ?_, ?_, ?_⟩
        · rw [ai_ne (by decide), ai_ne (by decide), ai_ne (by decide), ai_eq, r59]
        · rw [ai_ne (by decide), ai_ne (by decide), ai_eq, ai_ne (by decide), r60]
        · rw [ai_ne (by decide), ai_eq, ai_ne (by decide), ai_ne (by decide), r61]
        · rw [ai_eq, ai_ne (by decide), ai_ne (by decide), ai_ne (by decide), r62]
      · have hj : ¬ 4 * B + x = 4 * B + k := by omega
        rw [ai_nj hj, ai_nj hj, ai_nj hj, ai_nj hj, ai_nj hj, ai_nj hj, ai_nj hj, ai_nj hj, ai_nj hj, ai_nj hj, ai_nj hj, ai_nj hj, ai_nj hj, ai_nj hj, ai_nj hj, ai_nj hj]
        exact q3 x (by omega)
theorem wr_walks {A Z0 : Hp} {a b ti : Int32} {n B : Nat} (hB : B < 30) (hn4 : n ≤ 4) : ∀ (m k fu : Nat) (Z : Hp), k + m = n + 1 → m < fu → FX [] [75] Z0 Z → (∀ s i j, i ≠ 0 → xAI Z s i j = xAI Z0 s i j) → (∀ j, (j < 5 * B ∨ 5 * B + k ≤ j) → xAI Z 75 0 j = xAI Z0 75 0 j) → (∀ x, x < k → xAI Z 75 0 (5 * B + x) = xAI Z0 63 0 x) →
    ∃ Z1, L_X9_book_276 A a b ti (nI n) fu Z (nI B) k = (nI B, Z1) ∧ FX [] [75] Z0 Z1 ∧ (∀ s i j, i ≠ 0 → xAI Z1 s i j = xAI Z0 s i j) ∧ (∀ j, (j < 5 * B ∨ 5 * B + n < j) → xAI Z1 75 0 j = xAI Z0 75 0 j) ∧ (∀ x, x ≤ n → xAI Z1 75 0 (5 * B + x) = xAI Z0 63 0 x) := by
  intro m
  induction m with
  | zero =>
    intro k fu Z hk hf q1 q0 q2 q3
    obtain ⟨fu, rfl⟩ : ∃ g, fu = g + 1 := ⟨fu - 1, by omega⟩
    refine ⟨Z, ?_, q1, q0, fun j hj => q2 j (by omega), fun x hx => q3 x (by omega)⟩
    rw [L_X9_book_276_s]
    unfold B_X9_book_276
    rw [if_pos ((nI_ltI (by omega) (by omega)).mpr (by omega))]
  | succ m ih =>
    intro k fu Z hk hf q1 q0 q2 q3
    obtain ⟨fu, rfl⟩ : ∃ g, fu = g + 1 := ⟨fu - 1, by omega⟩
    rw [L_X9_book_276_s]
    unfold B_X9_book_276
    rw [if_neg (fun z => by
      have := (nI_ltI (by omega) (by omega)).mp z
      omega), xi5, nI_clamp (show 5 * B + k < 2 ^ 31 by omega), nI_clamp (show k < 2 ^ 31 by omega)]
    refine ih (k + 1) fu _ (by omega) (by omega) (q1.trans (FX.sai (by decide))) (fun s i j hi => ?_) (fun j hj => ?_) (fun x hx => ?_)
    · rw [ai_ai, if_neg (fun z => hi z.2.1)]
      exact q0 s i j hi
    · rw [ai_nj (by omega)]
      exact q2 j (by omega)
    · by_cases w : x = k
      · subst w
        rw [ai_eq]
        exact q1.2.2 63 (by decide) 0 x
      · rw [ai_nj (by omega)]
        exact q3 x (by omega)
theorem m_book {A Y Y2 : Hp} {a b ti : Int32} {n B fv k : Nat} (hB : B < 30) (hn4 : n ≤ 4) (h31 : xFI Y 1031 0 = nI B) (ef : F_X9_fareOf (sAI (sFI Y 1031 0 (nI B + 1)) 65 0 B 0) = (nI fv, Y2)) :
    ∃ W, K_X9_book_50 A a b ti (nI n) Y 1 k = (nI B, W) ∧ BkM Y2 W B n fv ti := by
  unfold K_X9_book_50
  rw [if_neg (by decide : ¬ (1 : Int32) = 0), h31, nI_clamp (show B < 2 ^ 31 by omega), ef]
  dsimp only
  simp only [fi_ai]
  generalize hZ : sAI (sAI (sAI (sAI (sAI Y2 66 0 B (nI fv)) 67 0 B (nI n)) 68 0 B (xFI Y2 1030 0)) 69 0 B ti) 70 0 B (xFI Y2 1023 0) = Z0
  obtain ⟨Z1, e1, p1, p0, p2, p3⟩ := wr_rides (A := A) (a := a) (b := b) (ti := ti) hB hn4 (kx := K_X9_book_184 A a b ti (nI n)) n 0 (2147483648 - 0 + 1) Z0 (by omega) (by omega) FX.rf (fun _ _ _ _ => rfl) (fun _ _ _ _ _ => rfl) (fun x hx => absurd hx (Nat.not_lt_zero _))
  rw [e1]
  unfold K_X9_book_184
  obtain ⟨W, e2, w1, w0, w2, w3⟩ := wr_walks (A := A) (a := a) (b := b) (ti := ti) hB hn4 (n + 1) 0 (2147483648 - 0 + 1) Z1 (by omega) (by omega) FX.rf (fun _ _ _ _ => rfl) (fun _ _ => rfl) (fun x hx => absurd hx (Nat.not_lt_zero _))
  rw [e2]
  have z1 : SR Y2 Z0 := by subst hZ; exact ⟨rfl, rfl⟩
  have z2 : ∀ f i, xFI Z0 f i = xFI Y2 f i := fun f i => by subst hZ; rfl
  have z3 : ∀ s i j, (s < 66 ∨ 70 < s) ∨ i ≠ 0 ∨ j ≠ B → xAI Z0 s i j = xAI Y2 s i j := fun s i j q => by
    rw [← hZ, ai_ai, if_neg (by omega), ai_ai, if_neg (by omega), ai_ai, if_neg (by omega), ai_ai, if_neg (by omega), ai_ai, if_neg (by omega)]
  have n1 : ∀ s, (s < 71 ∨ 74 < s) → s ∉ [71, 72, 73, 74] := fun s q z => by
    simp only [List.mem_cons, List.not_mem_nil, or_false] at z
    omega
  have n2 : ∀ s, s ≠ 75 → s ∉ [75] := fun s q z => by
    simp only [List.mem_cons, List.not_mem_nil, or_false] at z
    exact q z
  have low : ∀ s i j, s ≠ 75 → (s < 71 ∨ 74 < s) → xAI W s i j = xAI Z0 s i j := fun s i j x y => (w1.2.2 s (n2 s x) i j).trans (p1.2.2 s (n1 s y) i j)
  refine ⟨W, rfl, z1.trans (p1.1.trans w1.1), fun f i => (w1.2.1 f (by simp) i).trans ((p1.2.1 f (by simp) i).trans (z2 f i)), fun s i j q => ?_, fun s s1 s2 j hj => ?_, ⟨?_, ?_, ?_, ?_, ?_⟩, fun s s1 s2 j hj => ?_, fun x hx => ?_, fun j hj => ?_, fun x hx => ?_⟩
  · rcases q with q | q
    · rw [low s i j (by omega) (by omega)]
      exact z3 s i j (by omega)
    · rw [w0 s i j q, p0 s i j q]
      exact z3 s i j (by omega)
  · rw [low s 0 j (by omega) (by omega)]
    exact z3 s 0 j (by omega)
  · rw [low 66 0 B (by decide) (by decide), ← hZ, ai_ne (by decide), ai_ne (by decide), ai_ne (by decide), ai_ne (by decide), ai_eq]
  · rw [low 67 0 B (by decide) (by decide), ← hZ, ai_ne (by decide), ai_ne (by decide), ai_ne (by decide), ai_eq]
  · rw [low 68 0 B (by decide) (by decide), ← hZ, ai_ne (by decide), ai_ne (by decide), ai_eq]
  · rw [low 69 0 B (by decide) (by decide), ← hZ, ai_ne (by decide), ai_eq]
  · rw [low 70 0 B (by decide) (by decide), ← hZ, ai_eq]
  · rw [w1.2.2 s (n2 s (by omega)), p2 s s1 s2 j hj]
    exact z3 s 0 j (by omega)
  · obtain ⟨u1, u2, u3, u4⟩ := p3 x hx
    rw [w1.2.2 71 (n2 71 (by decide)), w1.2.2 72 (n2 72 (by decide)), w1.2.2 73 (n2 73 (by decide)), w1.2.2 74 (n2 74 (by decide)), u1, u2, u3, u4, z3 59 0 x (by omega), z3 60 0 x (by omega), z3 61 0 x (by omega), z3 62 0 x (by omega)]
    exact ⟨rfl, rfl, rfl, rfl⟩
  · rw [w2 j hj, p1.2.2 75 (n1 75 (by decide))]
    exact z3 75 0 j (by omega)
  · rw [w3 x hx, p1.2.2 63 (n1 63 (by decide))]
    exact z3 63 0 x (by omega)
/-- what the class's new booking leaves -/
def NewB (T H : Hp) (B jr fv : Nat) : Prop :=
  ((∀ f i, f / 100 ≠ 1 ∨ i ≠ B → xFR H f i = xFR T f i) ∧ xFR H 100 B = some jr) ∧
  ((∀ f i, f / 100 ≠ 1 ∨ i ≠ B → f ≠ 1200 → xFI H f i = xFI T f i) ∧ xFI H 101 B = nI fv ∧ xFI H 102 B = xFI T 905 0 ∧ xFI H 103 B = 0) ∧
  (∀ s, s ≠ 27 → ∀ i j, xAI H s i j = xAI T s i j) ∧
  (xLS H 11 = xLS T 11 ∧ xLS H 12 = B + 1 ∧ xLS H 16 = xLS T 16) ∧ ((∀ j, xLE H 11 j = xLE T 11 j) ∧ ∀ j, xLE H 12 j = if j = B then B else xLE T 12 j) ∧
  ∀ x, x ≠ 14 → xCN H x = if x = 1 then B + 1 else xCN T x
theorem bookC {T X : Hp} (C : CN T) {jr fv : Nat} (q : FX [] [27] (sNO T 1) X) : NewB T (H_add (F_X0_init X (xCN T 1) jr (nI fv) (xFI X 905 0)) 12 (xCN T 1)) (xLS T 12) jr fv := by
  have e1 := C.2.2
  rw [e1]
  have x1 : xFR X = xFR (sNO T 1) := q.1.1
  have x2 : X.2.2.2 = (sNO T 1).2.2.2 := q.1.2
  have xl : xLS X = xLS T := congrArg (fun x => x.2.2.1) x2
  have xe : xLE X = xLE T := congrArg (fun x => x.2.1) x2
  have xc : xCN X = xCN (sNO T 1) := congrArg (fun x => x.1) x2
  have nfi : ∀ f i, xFI (sNO T 1) f i = if f / 100 = 1 ∧ i = xCN T 1 then 0 else xFI T f i := fun _ _ => rfl
  have nfr : ∀ f i, xFR (sNO T 1) f i = if f / 100 = 1 ∧ i = xCN T 1 then none else xFR T f i := fun _ _ => rfl
  have ncn : ∀ x, xCN (sNO T 1) x = if x = 1 then xCN T 1 + 1 else xCN T x := fun _ => rfl
  have e905 : xFI X 905 0 = xFI T 905 0 := (q.2.1 905 (by simp) 0).trans (by rw [nfi, if_neg (by omega)])
  rw [e905]
  unfold F_X0_init
  refine ⟨⟨fun f i z => ?_, ?_⟩, ⟨fun f i z z2 => ?_, ?_, ?_, ?_⟩, fun s hs i j => ?_, ⟨?_, ?_, ?_⟩, ⟨fun j => ?_, fun j => ?_⟩, fun x hx => ?_⟩
  · rw [ad_fr, fr_sfi, fr_sfi, fr_sfi, fr_fr, if_neg (by omega), x1, nfr, if_neg (by omega)]
  · rw [ad_fr, fr_sfi, fr_sfi, fr_sfi, fr_eq]
  · rw [ad_fi z2, fi_fi, if_neg (by omega), fi_fi, if_neg (by omega), fi_fi, if_neg (by omega), fi_sfr, q.2.1 f (by simp), nfi, if_neg (by omega)]
  · rw [ad_fi (by decide), fi_ne (by decide), fi_ne (by decide), fi_eq]
  · rw [ad_fi (by decide), fi_ne (by decide), fi_eq]
  · rw [ad_fi (by decide), fi_eq]
  · rw [ad_ai]
    show xAI X s i j = _
    rw [q.2.2 s (by simpa using hs)]
    rfl
  · rw [ad_ls, if_neg (by decide), if_neg (by decide)]
    show xLS X 11 = _
    rw [xl]
  · rw [ad_ls, if_neg (by decide), if_pos rfl]
    show xLS X 12 + 1 = _
    rw [xl]
  · rw [ad_ls, if_neg (by decide), if_neg (by decide)]
    show xLS X 16 = _
    rw [xl]
  · rw [ad_le, if_neg (fun z => absurd z.1 (by decide))]
    show xLE X 11 j = _
    rw [xe]
  · rw [ad_le]
    by_cases c : j = xLS T 12
    · exact (if_pos ⟨rfl, c.trans (congrFun xl 12).symm⟩).trans (if_pos c).symm
    · exact (if_neg (fun z => c (z.2.trans (congrFun xl 12)))).trans ((congrFun (congrFun xe 12) j).trans (if_neg c).symm)
  · rw [ad_cn, if_neg hx]
    show xCN X x = _
    rw [xc, ncn, e1]
theorem NewB.old {T H : Hp} {B jr fv : Nat} (q : NewB T H B jr fv) {b : Nat} (hb : b ≠ B) : bj H b = bj T b := by
  unfold bj
  rw [q.1.1 100 b (.inr hb)]
theorem NewB.rl {T H : Hp} {B jr fv : Nat} (q : NewB T H B jr fv) (j : Nat) : rls H j = rls T j := by
  unfold rls
  rw [q.1.1 301 j (.inl (by decide))]
  have : ∀ (n : Nat) (o : Option Nat), chs (xFR H) n o = chs (xFR T) n o := by
    intro n
    induction n with
    | zero => intro o; rfl
    | succ n ih =>
      intro o
      cases o with
      | none => rfl
      | some r =>
        show r :: chs (xFR H) n (xFR H 504 r) = r :: chs (xFR T) n (xFR T 504 r)
        rw [q.1.1 504 r (.inl (by decide)), ih]
  exact this _ _
theorem NewB.cw {T H : Hp} {jr fv : Nat} (W : CW T) (C : CN T) (h30 : xLS T 12 < 30) (q : NewB T H (xLS T 12) jr fv) (hj : jr < xCN T 3) (hc : Chn (xFR T) (xLS T 11) (xFR T 301 jr) (rls T jr)) (hr : ∀ r, r ∈ rls T jr → r < xCN T 5) : CW H ∧ CN H := by
  have er := q.rl
  have eo := fun {b : Nat} (hb : b ≠ xLS T 12) => q.old hb
  obtain ⟨⟨r1, r2⟩, ⟨f1, -⟩, -, ⟨l1, l2, l3⟩, ⟨e1, e2⟩, c⟩ := q
  have g1 : ∀ f ∈ cw_f1, f / 100 ≠ 1 := by decide
  have g2 : ∀ f ∈ cw_f2, f / 100 ≠ 1 := by decide
  have ej : bj H (xLS T 12) = jr := by unfold bj; rw [r2]; rfl
  refine ⟨⟨fun f hf => ?_, fun t ht => ?_, ?_, ?_, ?_, fun b hb => ?_⟩, ?_, fun s h1 h2 => ?_, ?_⟩
  · rw [r1 f 0 (.inl (g1 f hf))]
    exact W.fr hf
  · rw [l1] at ht
    rw [e1]
    refine ⟨W.tle ht, fun f hf => ?_⟩
    rw [r1 f t (.inl (g2 f hf))]
    exact W.tfr ht hf
  · rw [l1]
    exact W.t20
  · rw [l2]
    omega
  · rw [c 15 (by decide), if_neg (by decide)]
    exact W.c15
  · rw [l2] at hb
    rw [l1, c 3 (by decide), if_neg (by decide), c 5 (by decide), if_neg (by decide), e2, er]
    by_cases w : b = xLS T 12
    · subst w
      rw [ej, if_pos rfl, r1 301 jr (.inl (by decide))]
      exact ⟨rfl, r2, Chn.up (Nat.le_refl _) (fun k r hk => r1 k r (.inl (by omega))) hc, hj, hr⟩
    · have hb' : b < xLS T 12 := by omega
      rw [eo w, if_neg w, r1 100 b (.inr w), r1 301 _ (.inl (by decide))]
      exact ⟨W.ble hb', W.jb hb', Chn.up (Nat.le_refl _) (fun k r hk => r1 k r (.inl (by omega))) (W.jc hb'), W.j3 hb', fun r hr' => W.r5 hb' hr'⟩
  · rw [c 8 (by decide), if_neg (by decide), l1]
    exact C.1
  · rw [c s (by omega), if_neg (by omega), l1]
    exact C.2.1 s h1 h2
  · rw [c 1 (by decide), if_pos rfl, l2]
theorem DM.newB {T H : Hp} {B jr fv : Nat} (D : DM T) (q : NewB T H B jr fv) : DM H := by
  obtain ⟨-, ⟨f1, -⟩, a1, -⟩ := q
  have ea : ∀ x, x ∈ dm_a → x.1 ≠ 27 := by decide
  have ef : ∀ x, x ∈ dm_f → x.1 / 100 ≠ 1 ∧ x.1 ≠ 1200 := by decide
  exact ⟨fun s b hs j => by rw [a1 s (ea _ hs)]; exact D.1 s b hs j, fun f b hf => by rw [f1 f 0 (.inl (ef _ hf).1) (ef _ hf).2]; exact D.2 f b hf⟩
