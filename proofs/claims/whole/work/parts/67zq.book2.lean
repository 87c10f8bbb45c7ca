/-! ===== own: a booking, both ways ===== -/
theorem rg_get {f : Nat → Nat} : ∀ (n s k r : Nat), ((List.range' s n).map f)[k]? = some r → k < n ∧ r = f (s + k) := by
  intro n
  induction n with
  | zero => intro s k r h; simp at h
  | succ n ih =>
    intro s k r h
    have e : (List.range' s (n + 1)).map f = f s :: (List.range' (s + 1) n).map f := rfl
    rw [e] at h
    cases k with
    | zero =>
      rw [List.getElem?_cons_zero] at h
      cases h
      exact ⟨by omega, rfl⟩
    | succ k =>
      rw [List.getElem?_cons_succ] at h
      obtain ⟨a, b⟩ := ih (s + 1) k r h
      exact ⟨by omega, by rw [b]; congr 1; omega⟩
theorem rg_mem {f : Nat → Nat} : ∀ (n s r : Nat), r ∈ (List.range' s n).map f → ∃ x, s ≤ x ∧ x < s + n ∧ r = f x := by
  intro n
  induction n with
  | zero => intro s r h; simp at h
  | succ n ih =>
    intro s r h
    have e : (List.range' s (n + 1)).map f = f s :: (List.range' (s + 1) n).map f := rfl
    rw [e] at h
    rcases List.mem_cons.mp h with rfl | h
    · exact ⟨s, Nat.le_refl _, by omega, rfl⟩
    · obtain ⟨x, a, b, c⟩ := ih (s + 1) r h
      exact ⟨x, by omega, by omega, c⟩
theorem rg_len {f : Nat → Nat} {n s : Nat} : ((List.range' s n).map f).length = n := by
  rw [List.length_map, List.length_range']
theorem told_r5 {h HC T : Hp} {n a b ti : Nat} {e : Int32} {at' t d i j : Nat → Nat} (q : ToldC h HC T n a b ti e at' t d i j) : xCN HC 3 < xCN T 3 ∧ ∀ r, r ∈ rls T (xCN HC 3) → r < xCN T 5 := by
  refine ⟨by have := q.2.2.1; omega, fun r hr => ?_⟩
  rw [q.2.2.2.2.2.2.2.1] at hr
  obtain ⟨x, a, b, rfl⟩ := rg_mem n 0 r hr
  have := q.2.1
  unfold rid
  omega
theorem book_inv {S : Nat → Int32} {N : Nat} {T H Y Y2 W9 HC : Hp} (I : Inv S N T) {n0 fd ld a b ti n fv : Nat} {v : Int64} {e : Int} {e' : Int32} {R E : Nat → Nat → Int} {at' t d i j : Nat → Nat} (hs : RStop T n0) (w : World T n0) (hld : ld < 100) (wy : Way T n0 R E fd ld b n e at' t d i j)
    (tT : ToldC T HC T n a b ti e' at' t d i j) (hn : n ≠ 0) (hn4 : n ≤ 4) (h30 : xLS T 12 < 30) (q : NewB T H (xLS T 12) (xCN HC 3) fv) (hc : Chn (xFR T) (xLS T 11) (xFR T 301 (xCN HC 3)) (rls T (xCN HC 3)))
    (fx : FX [1021, 1022, 1023, 1043] [57, 58, 59, 60, 61, 62, 63] (sAL H v) Y) (fY : Found T Y n a b ti e' at' t d i j) (f2 : FX [] [64] (sAI (sFI Y 1031 0 (nI (xLS T 12) + 1)) 65 0 (xLS T 12) 0) Y2) (k : BkM Y2 W9 (xLS T 12) n fv (nI ti)) (D : DM W9) : Inv S N W9 := by
  obtain ⟨hj, hr⟩ := told_r5 tT
  obtain ⟨W, C⟩ := q.cw I.W I.C h30 hj hc hr
  have er := q.rl
  have eo := fun {b : Nat} (hb : b ≠ xLS T 12) => q.old hb
  obtain ⟨⟨r1, r2⟩, ⟨f1, f101, f102, f103⟩, a1, ⟨l1, l2, l3⟩, ⟨e1, e2⟩, c⟩ := q
  obtain ⟨k0, k1, k2, k3, ⟨k66, k67, k68, k69, k70⟩, k4, k5, k6, k7⟩ := k
  have sr : SR (sAL H v) W9 := fx.1.trans ((show SR Y (sAI (sFI Y 1031 0 (nI (xLS T 12) + 1)) 65 0 (xLS T 12) 0) from ⟨rfl, rfl⟩).trans (f2.1.trans k0))
  have W' : CW W9 := (show CW (sAL H v) from W).sr sr
  have C' : CN W9 := (show CN (sAL H v) from C).sr sr
  have xr : xFR W9 = xFR H := sr.1
  have xl : xLS W9 = xLS H := congrArg (fun x => x.2.2.1) sr.2
  have h20 := I.W.t20
  -- fields and rows
  have nf : ∀ f : Nat, f ≠ 1021 → f ≠ 1022 → f ≠ 1023 → f ≠ 1043 → f ∉ [1021, 1022, 1023, 1043] := fun f a b c d z => by
    simp only [List.mem_cons, List.not_mem_nil, or_false] at z
    omega
  have nr : ∀ s : Nat, (s < 57 ∨ 63 < s) → s ∉ [57, 58, 59, 60, 61, 62, 63] := fun s a z => by
    simp only [List.mem_cons, List.not_mem_nil, or_false] at z
    omega
  have n64 : ∀ s : Nat, s ≠ 64 → s ∉ [64] := fun s a z => by
    simp only [List.mem_cons, List.not_mem_nil, or_false] at z
    exact a z
  have FY : ∀ f i, f ≠ 1031 → xFI W9 f i = xFI Y f i := fun f i x => by rw [k1, f2.2.1 f (by simp), fi_ai, fi_ne x]
  have FH : ∀ f i, (f < 1021 ∨ 1043 < f ∨ f = 1030) → xFI W9 f i = xFI H f i := fun f i x => (FY f i (by omega)).trans (fx.2.1 f (nf f (by omega) (by omega) (by omega) (by omega)) i)
  have F : ∀ f i, (f / 100 ≠ 1 ∨ i ≠ xLS T 12) → f ≠ 1200 → (f < 1021 ∨ 1043 < f ∨ f = 1030) → xFI W9 f i = xFI T f i := fun f i x y z => (FH f i z).trans (f1 f i x y)
  have RY2 : ∀ s i j, s ≠ 64 → (s ≠ 65 ∨ j ≠ xLS T 12) → xAI Y2 s i j = xAI Y s i j := fun s i j x y => by rw [f2.2.2 s (n64 s x), ai_ai, if_neg (by omega)]; rfl
  have RYT : ∀ s i j, (s < 57 ∨ 63 < s) → s ≠ 27 → xAI Y s i j = xAI T s i j := fun s i j x y => (fx.2.2 s (nr s x) i j).trans (a1 s y i j)
  have Rr : ∀ s i j, (s < 57 ∨ 75 < s) → s ≠ 27 → xAI W9 s i j = xAI T s i j := fun s i j x y => (k2 s i j (by omega)).trans ((RY2 s i j (by omega) (by omega)).trans (RYT s i j (by omega) y))
  have R65 : ∀ j, j ≠ xLS T 12 → xAI W9 65 0 j = xAI T 65 0 j := fun j x => (k2 65 0 j (by omega)).trans ((RY2 65 0 j (by decide) (.inr x)).trans (RYT 65 0 j (by decide) (by decide)))
  have R66 : ∀ s, 66 ≤ s → s ≤ 70 → ∀ j, j ≠ xLS T 12 → xAI W9 s 0 j = xAI T s 0 j := fun s x y j z => (k3 s x y j z).trans ((RY2 s 0 j (by omega) (by omega)).trans (RYT s 0 j (by omega) (by omega)))
  have R71 : ∀ s, 71 ≤ s → s ≤ 74 → ∀ j, j < 4 * xLS T 12 → xAI W9 s 0 j = xAI T s 0 j := fun s x y j z => (k4 s x y j (.inl z)).trans ((RY2 s 0 j (by omega) (by omega)).trans (RYT s 0 j (by omega) (by omega)))
  have R75 : ∀ j, j < 5 * xLS T 12 → xAI W9 75 0 j = xAI T 75 0 j := fun j z => (k6 j (.inl z)).trans ((RY2 75 0 j (by decide) (by omega)).trans (RYT 75 0 j (by decide) (by decide)))
  obtain ⟨⟨n', hs', htr⟩, hwk, h3, htn, hpr, hno, hb1, hbr, hcc⟩ := I.R
  have h10 := hs.1
  obtain rfl : n0 = n' := nI_inj (by omega) (by have := hs'.1; omega) (hs.2.1.symm.trans hs'.2.1)
  have s15 : ∀ j, xAI W9 15 0 j = xAI T 15 0 j := fun j => Rr 15 0 j (by decide) (by decide)
  have RC' : RC W9 := by
    refine ⟨⟨n0, ⟨h10, (F 403 0 (.inl (by decide)) (by decide) (by decide)).trans hs.2.1, (F 1000 0 (.inl (by decide)) (by decide) (by decide)).trans hs.2.2.1, fun s hs' => ?_⟩, fun k hk => ?_⟩, ⟨fun a b ha hb => ?_, fun a ha => ?_⟩, ?_, fun t g1 g2 => ?_, fun f hf => ?_, ?_, ?_, fun b' hb => ?_, by rw [s15]; exact hcc.1, by rw [s15]; exact hcc.2.1, by rw [s15]; exact hcc.2.2⟩
    · rw [Rr 22 0 s (by decide) (by decide), Rr 40 0 s (by decide) (by decide)]
      exact hs.2.2.2 s hs'
    · rw [xl, l1] at hk
      refine TR.cg (by omega) (fun f hf => ?_) (fun s x y j => Rr s _ _ (by omega) (by omega)) (fun s x y => Rr s _ _ (by omega) (by omega)) (fun s x y p hp => Rr s _ _ (by omega) (by omega)) (fun s x y d hd => Rr s _ _ (by omega) (by omega)) (Rr 52 _ _ (by decide) (by decide)) (fun i hi => Rr 53 _ _ (by decide) (by decide)) (htr k hk)
      simp only [List.mem_cons, List.not_mem_nil, or_false] at hf
      rcases hf with rfl | rfl | rfl | rfl | rfl | rfl <;> exact F _ _ (.inl (by decide)) (by decide) (by decide)
    · rw [Rr 23 _ _ (by decide) (by decide), Rr 41 _ _ (by decide) (by decide)]
      exact hwk.1 a b ha hb
    · rw [Rr 41 _ _ (by decide) (by decide)]
      exact hwk.2 a ha
    · rw [F 1003 0 (.inl (by decide)) (by decide) (by decide), xl, l1]
      exact h3
    · rw [xl, l1] at g1
      obtain ⟨u1, u2⟩ := htn t (by omega) g2
      refine ⟨fun d hd => ?_, (Rr 52 _ _ (by decide) (by decide)).trans u2⟩
      rw [Rr 50 _ _ (by decide) (by decide), Rr 51 _ _ (by decide) (by decide)]
      exact u1 d hd
    · rw [Rr 24 _ _ (by decide) (by decide), Rr 54 _ _ (by decide) (by decide), Rr 25 _ _ (by decide) (by decide), Rr 55 _ _ (by decide) (by decide), Rr 26 _ _ (by decide) (by decide), Rr 56 _ _ (by decide) (by decide)]
      exact hpr f hf
    · rw [F 905 0 (.inl (by decide)) (by decide) (by decide), F 1030 0 (.inl (by decide)) (by decide) (by decide)]
      exact hno
    · rw [xl, l2, k1, f2.2.1 1031 (by simp), fi_ai, fi_eq, nI_1]
    · rw [xl, l2] at hb
      by_cases c0 : b' = xLS T 12
      · subst c0
        have ejb : bj W9 (xLS T 12) = xCN HC 3 := by unfold bj; rw [xr, r2]; rfl
        have erb : rls W9 (xCN HC 3) = (List.range' 0 n).map (rid (xCN HC 5) n) := by
          have : rls W9 (xCN HC 3) = rls H (xCN HC 3) := by unfold rls; rw [xr]
          rw [this, er]
          exact tT.2.2.2.2.2.2.2.1
        have j3 : ∀ f, f / 100 = 3 → xFI W9 f (xCN HC 3) = xFI T f (xCN HC 3) := fun f hf => F f _ (.inl (by omega)) (by omega) (by omega)
        unfold BR
        rw [ejb, erb, rg_len]
        refine ⟨?_, ?_, ?_, by omega, hn4, (j3 302 (by decide)).trans tT.2.2.2.2.1, k67, ?_, ?_, ?_, fun x r hk => ?_⟩
        · rw [FH 103 _ (by decide), f103, k2 65 0 _ (by decide), f2.2.2 65 (by decide), ai_eq]
        · rw [FH 101 _ (by decide), f101, k66]
        · rw [FH 102 _ (by decide), f102, k68, f2.2.1 1030 (by simp), fi_ai, fi_ne (by decide), fx.2.1 1030 (by decide)]
          exact hno.trans (f1 1030 0 (.inl (by decide)) (by decide)).symm
        · rw [j3 300 (by decide), tT.2.2.2.1, k69]
        · rw [j3 304 (by decide), tT.2.2.2.2.2.2.1, k70, f2.2.1 1023 (by simp), fi_ai, fi_ne (by decide), fY.2.2.1]
        · rw [j3 303 (by decide), tT.2.2.2.2.2.1, k7 n (Nat.le_refl _), RY2 63 0 n (by decide) (by omega), fY.2.2.2.1]
        · obtain ⟨hx, rx⟩ := rg_get n 0 x r hk
          rw [Nat.zero_add] at rx
          subst rx
          obtain ⟨p1, p2, p3, p4, p5⟩ := wy.pl w hld hx
          obtain ⟨q1, q2, q3, q4, q5, q6⟩ := tT.2.2.2.2.2.2.2.2 x hx
          obtain ⟨y1, y2, y3, y4, y5⟩ := fY.2.2.2.2 x hx
          obtain ⟨u1, u2, u3, u4⟩ := k5 x hx
          have et : tr W9 (rid (xCN HC 5) n x) = t x := by
            unfold tr
            rw [xr, r1 500 _ (.inl (by decide)), q1]
            rfl
          have g5 : ∀ f, f / 100 = 5 → xFI W9 f (rid (xCN HC 5) n x) = xFI T f (rid (xCN HC 5) n x) := fun f hf => F f _ (.inl (by omega)) (by omega) (by omega)
          have e810 : xFI W9 810 (t x) = nI (lnN T (t x)) := (F 810 _ (.inl (by decide)) (by decide) (by decide)).trans (w.2.2.2 (t x) p1).2.2.1
          have lp := (w.2.2.2 (t x) p1).1
          unfold BRide
          rw [et, e810]
          refine ⟨u1.trans ((RY2 59 0 x (by decide) (by omega)).trans y1), d x, i x, j x, p2, p3, by omega, fun z => ?_, fun z => ?_, (g5 501 (by decide)).trans q2, u2.trans ((RY2 60 0 x (by decide) (by omega)).trans y2), (g5 502 (by decide)).trans q3, u3.trans ((RY2 61 0 x (by decide) (by omega)).trans y3), (g5 503 (by decide)).trans q4, u4.trans ((RY2 62 0 x (by decide) (by omega)).trans y4), ?_⟩
          · have := nI_inj (a := lnN T (t x)) (b := 0) (by omega) (by decide) z
            omega
          · have := (nI_leI (by omega) (by omega)).mp z
            omega
          · rw [g5 505 (by decide), q5, k7 x (by omega), RY2 63 0 x (by decide) (by omega), y5]
      · have hb' : b' < xLS T 12 := by omega
        have eb : bj W9 b' = bj T b' := by
          have : bj W9 b' = bj H b' := by unfold bj; rw [xr]
          rw [this, eo c0]
        have erb : rls W9 (bj T b') = rls T (bj T b') := by
          have : rls W9 (bj T b') = rls H (bj T b') := by unfold rls; rw [xr]
          rw [this, er]
        refine BR.cg eb erb (fun f hf => ?_) (fun f hf => ?_) (fun s x y => ?_) (fun s x y k hk => R71 s x y _ (by omega)) (fun k hk => R75 _ (by omega)) (fun r hm => ⟨?_, fun f hf => ?_, F 810 _ (.inl (by decide)) (by decide) (by decide)⟩) (hbr b' hb')
        · simp only [List.mem_cons, List.not_mem_nil, or_false] at hf
          rcases hf with rfl | rfl | rfl <;> exact F _ _ (.inr c0) (by decide) (by decide)
        · simp only [List.mem_cons, List.not_mem_nil, or_false] at hf
          rcases hf with rfl | rfl | rfl | rfl <;> exact F _ _ (.inl (by decide)) (by decide) (by decide)
        · by_cases z : s = 65
          · subst z
            exact R65 b' c0
          · exact R66 s (by omega) y b' c0
        · unfold tr
          rw [xr, r1 500 r (.inl (by decide))]
        · simp only [List.mem_cons, List.not_mem_nil, or_false] at hf
          rcases hf with rfl | rfl | rfl | rfl <;> exact F _ _ (.inl (by decide)) (by decide) (by decide)
  refine ⟨W', C', fun f g1 g2 g3 => ?_, D, ⟨fun j => ?_, ?_⟩, RC'⟩
  · rw [xr, r1 f 0 (.inl (by omega))]
    exact I.MW f g1 g2 g3
  · rw [Rr 16 _ _ (by decide) (by decide)]
    exact I.S.1 j
  · rw [xl, l3]
    exact I.S.2
/-- are there seats, both ways -/
theorem seats_loop {T Y A HC : Hp} {n0 fd ld a b n ti : Nat} {xa xb xt : Int32} {e : Int} {e' : Int32} {R E : Nat → Nat → Int} {at' t d i j : Nat → Nat} (W : CW T) (RR : RC T) (w : World T n0) (mA : ∀ s, s ∉ scA → ∀ i j, xAI Y s i j = xAI T s i j) (hF : xFI Y 1031 0 = xFI T 1031 0) (hld : ld < 100) (wy : Way T n0 R E fd ld b n e at' t d i j)
    (tT : ToldC T HC T n a b ti e' at' t d i j) (fY : Found T Y n a b ti e' at' t d i j) (hn4 : n ≤ 4) {jj : Nat} {R0 : List Nat} {kx : Hp → Int32 → Nat → (Int32 × Hp)} : ∀ (m x fu : Nat), x + m = n → m + 1 < fu →
    (L_X8_hasSeats_5 T jj R0 ((List.range' x m).map (rid (xCN HC 5) n)) = 1 ∧ ∃ k, L_X9_book_50 A xa xb xt (nI n) kx fu Y 1 x = kx Y 1 k) ∨ (L_X8_hasSeats_5 T jj R0 ((List.range' x m).map (rid (xCN HC 5) n)) = 0 ∧ ∃ k, L_X9_book_50 A xa xb xt (nI n) kx fu Y 1 x = kx Y 0 k) := by
  have h20 := W.t20
  intro m
  induction m with
  | zero =>
    intro x fu hx hf
    obtain ⟨fu, rfl⟩ : ∃ g, fu = g + 1 := ⟨fu - 1, by omega⟩
    refine .inl ⟨rfl, x, ?_⟩
    rw [L_X9_book_50_s]
    unfold B_X9_book_50
    rw [if_pos (nI_le (by omega) (by omega))]
  | succ m ih =>
    intro x fu hx hf
    obtain ⟨fu, rfl⟩ : ∃ g, fu = g + 1 := ⟨fu - 1, by omega⟩
    have hxn : x < n := by omega
    obtain ⟨p1, p2, p3, p4, p5⟩ := wy.pl w hld hxn
    obtain ⟨q1, q2, q3, q4, q5, q6⟩ := tT.2.2.2.2.2.2.2.2 x hxn
    obtain ⟨y1, y2, y3, y4, y5⟩ := fY.2.2.2.2 x hxn
    have et : tr T (rid (xCN HC 5) n x) = t x := by unfold tr; rw [q1]; rfl
    have el : (List.range' x (m + 1)).map (rid (xCN HC 5) n) = rid (xCN HC 5) n x :: (List.range' (x + 1) m).map (rid (xCN HC 5) n) := rfl
    have fe : F_X9_free Y (nI (t x)) (nI (d x)) = F_X8_freeSeats T (t x) (nI (d x)) := free_eq W RR mA hF p1 p2
    rw [el, L_X8_hasSeats_5_s, L_X9_book_50_s]
    unfold B_X8_hasSeats_5 B_X9_book_50
    have hnx : ¬ nI n ≤ nI x := fun z => by
      have := (nI_leI (by omega) (by omega)).mp z
      omega
    rw [et, q2, if_neg (c := nI n ≤ nI x) hnx, if_neg (by decide : ¬ (1 : Int32) = 0), nI_clamp (show x < 2 ^ 31 by omega), y1, y2, fe]
    have o1 : (1 : Int32).toInt = 1 := by decide
    have o0 : (0 : Int32).toInt = 0 := by decide
    by_cases c : 1 ≤ F_X8_freeSeats T (t x) (nI (d x))
    · have c' : ¬ F_X8_freeSeats T (t x) (nI (d x)) ≤ 0 := fun z => by
        rw [Int32.le_iff_toInt_le] at c z
        omega
      rw [if_pos c, if_neg c']
      exact ih (x + 1) fu (by omega) (by omega)
    · have c' : F_X8_freeSeats T (t x) (nI (d x)) ≤ 0 := by
        rw [Int32.le_iff_toInt_le] at c ⊢
        omega
      rw [if_neg c, if_pos c']
      refine .inr ⟨rfl, x + 1, ?_⟩
      obtain ⟨fu, rfl⟩ : ∃ g, fu = g + 1 := ⟨fu - 1, by omega⟩
      rw [L_X9_book_50_s]
      unfold B_X9_book_50
      by_cases c2 : nI n ≤ nI (x + 1)
      · rw [if_pos c2]
      · rw [if_neg c2, if_pos rfl]
theorem ag_book {S : Nat → Int32} {N : Nat} {h : Hp} (I : Inv S N h) (a b ti n : Int32) : AG S N [cy_e3, cy_e1, cy_e2] (F_X8_book h a b ti n).1 (A1_book h a b ti n) (F_X9_book (A1_book h a b ti n) a b ti n).2 (xAL (F_X9_book (A1_book h a b ti n) a b ti n).2 0 = (F_X9_book (A1_book h a b ti n) a b ti n).1.toInt64) := by
  obtain ⟨n0, hs0, w⟩ := world_of I.W I.R
  have h10 := hs0.1
  by_cases p : okW h a b ti
  · have ee : eW h a b = cy_e1 := by unfold eW; rw [if_pos p.1]
    by_cases pn : okR n 1 4
    · obtain ⟨ia, jb, tt, hi, hj, hij, ht, rfl, rfl, rfl⟩ := okW_of h10 hs0.2.1 p
      obtain ⟨k, rfl, hk1, hk4⟩ := okR_of (a := 1) (n := 4) (by decide) (by decide) pn
      have sc := seek_spec w (small_of I.R hs0) (b := jb) hi ht hk4
      have ck : (nI k).toNatClampNeg = k := nI_clamp (by omega)
      have eF : F_X8_book h (nI ia) (nI jb) (nI tt) (nI k) = (if (F_X5_tell (F_X5_seek h (nI ia) (nI jb) (nI tt) (nI k)) k).1 = none then (.inr cy_e2, (F_X5_tell (F_X5_seek h (nI ia) (nI jb) (nI tt) (nI k)) k).2) else
          (if 30 ≤ (nI (xLS ((F_X5_tell (F_X5_seek h (nI ia) (nI jb) (nI tt) (nI k)) k).2) 12)) then (.inr cy_e2, (F_X5_tell (F_X5_seek h (nI ia) (nI jb) (nI tt) (nI k)) k).2) else
          (if (F_X8_hasSeats ((F_X5_tell (F_X5_seek h (nI ia) (nI jb) (nI tt) (nI k)) k).2) (xCN (F_X5_seek h (nI ia) (nI jb) (nI tt) (nI k)) 3) (rls ((F_X5_tell (F_X5_seek h (nI ia) (nI jb) (nI tt) (nI k)) k).2) (xCN (F_X5_seek h (nI ia) (nI jb) (nI tt) (nI k)) 3))) = 0 then (.inr cy_e2, (F_X5_tell (F_X5_seek h (nI ia) (nI jb) (nI tt) (nI k)) k).2) else
          (.inl (some (.inl (.int (nI (xLS ((F_X5_tell (F_X5_seek h (nI ia) (nI jb) (nI tt) (nI k)) k).2) 12))))),
            H_add (F_X0_init ((F_X1_fareOf (sNO ((F_X5_tell (F_X5_seek h (nI ia) (nI jb) (nI tt) (nI k)) k).2) 1) (xCN (F_X5_seek h (nI ia) (nI jb) (nI tt) (nI k)) 3) (rls ((F_X5_tell (F_X5_seek h (nI ia) (nI jb) (nI tt) (nI k)) k).2) (xCN (F_X5_seek h (nI ia) (nI jb) (nI tt) (nI k)) 3))).2) (xCN ((F_X5_tell (F_X5_seek h (nI ia) (nI jb) (nI tt) (nI k)) k).2) 1) (xCN (F_X5_seek h (nI ia) (nI jb) (nI tt) (nI k)) 3)
              ((F_X1_fareOf (sNO ((F_X5_tell (F_X5_seek h (nI ia) (nI jb) (nI tt) (nI k)) k).2) 1) (xCN (F_X5_seek h (nI ia) (nI jb) (nI tt) (nI k)) 3) (rls ((F_X5_tell (F_X5_seek h (nI ia) (nI jb) (nI tt) (nI k)) k).2) (xCN (F_X5_seek h (nI ia) (nI jb) (nI tt) (nI k)) 3))).1)
              (xFI ((F_X1_fareOf (sNO ((F_X5_tell (F_X5_seek h (nI ia) (nI jb) (nI tt) (nI k)) k).2) 1) (xCN (F_X5_seek h (nI ia) (nI jb) (nI tt) (nI k)) 3) (rls ((F_X5_tell (F_X5_seek h (nI ia) (nI jb) (nI tt) (nI k)) k).2) (xCN (F_X5_seek h (nI ia) (nI jb) (nI tt) (nI k)) 3))).2) 905 0)) 12 (xCN ((F_X5_tell (F_X5_seek h (nI ia) (nI jb) (nI tt) (nI k)) k).2) 1))))) := by
        unfold F_X8_book
        rw [if_pos p, if_pos pn, ck]
      generalize F_X5_seek h (nI ia) (nI jb) (nI tt) (nI k) = HC at sc eF
      have fq : FQ h HC := sc.1.fq (by decide) (by decide)
      have IC := I.fq fq (I.D.fx sc.1 (by decide) (by decide))
      have e403 : xFI HC 403 0 = nI n0 := (fq.2.1 403 (by decide) 0).trans hs0.2.1
      obtain ⟨hsC, wC⟩ := IC.stops e403 h10
      have cC := sc.self w
      -- a refusal: the reference, out of the heap T
      have refuse : ∀ T, Inv S N T → RStop T n0 → F_X8_book h (nI ia) (nI jb) (nI tt) (nI k) = (.inr cy_e2, T) →
          (¬ 30 ≤ xFI T 1031 0 → ∃ Y, FX [1021, 1022, 1023] [57, 58, 59, 60, 61, 62, 63] (sFI (sFI T 1043 0 0) 1043 0 0) Y ∧ ((F_X9_finds (sFI (sFI T 1043 0 0) 1043 0 0) (nI ia) (nI jb) (nI tt) k = (0, Y)) ∨ (F_X9_finds (sFI (sFI T 1043 0 0) 1043 0 0) (nI ia) (nI jb) (nI tt) k = (1, Y) ∧ L_X9_book_50 T (nI ia) (nI jb) (nI tt) (nI k) (K_X9_book_50 T (nI ia) (nI jb) (nI tt) (nI k)) (2147483648 - 0 + 1) Y 1 0 = (0, sFI Y 1043 0 3)))) →
          AG S N [cy_e3, cy_e1, cy_e2] (F_X8_book h (nI ia) (nI jb) (nI tt) (nI k)).1 (A1_book h (nI ia) (nI jb) (nI tt) (nI k)) (F_X9_book (A1_book h (nI ia) (nI jb) (nI tt) (nI k)) (nI ia) (nI jb) (nI tt) (nI k)).2 (xAL (F_X9_book (A1_book h (nI ia) (nI jb) (nI tt) (nI k)) (nI ia) (nI jb) (nI tt) (nI k)).2 0 = (F_X9_book (A1_book h (nI ia) (nI jb) (nI tt) (nI k)) (nI ia) (nI jb) (nI tt) (nI k)).1.toInt64) := by
        intro T IT hsT e8 hY
        have eA : A1_book h (nI ia) (nI jb) (nI tt) (nI k) = T := by unfold A1_book; rw [e8]; rfl
        rw [eA, e8]
        have p2 : okWM T (nI ia) (nI jb) (nI tt) := (okWM_iff h10 hs0.2.1 hsT.2.2.1).mpr p
        have n0k : ¬ nI k ≤ 0 := fun z => by
          have := (nI_leI (a := k) (b := 0) (by omega) (by decide)).mp z
          omega
        by_cases c : 30 ≤ xFI T 1031 0
        · have eM : F_X9_book T (nI ia) (nI jb) (nI tt) (nI k) = (0, sFI (sFI (sFI T 1043 0 0) 1043 0 0) 1043 0 3) := by
            unfold F_X9_book
            rw [if_pos pn, if_pos p2, if_pos (show 30 ≤ xFI (sFI (sFI T 1043 0 0) 1043 0 0) 1031 0 from c), if_neg n0k]
          rw [eM]
          exact ag_err IT (k := 3) (fqe2.trans fqe1) rfl (by decide +kernel) (by decide)
        · obtain ⟨Y, fx, hy⟩ := hY c
          have eM : F_X9_book T (nI ia) (nI jb) (nI tt) (nI k) = (0, sFI Y 1043 0 3) := by
            unfold F_X9_book
            rw [if_pos pn, if_pos p2, if_neg (show ¬ 30 ≤ xFI (sFI (sFI T 1043 0 0) 1043 0 0) 1031 0 from c), ck]
            rcases hy with eY | ⟨eY, eL⟩
            · rw [eY, if_pos rfl, if_neg n0k]
            · rw [eY, if_neg (by decide : ¬ (1 : Int32) = 0)]
              exact eL
          rw [eM]
          exact ag_err IT (k := 3) (fqe2.trans ((fx.fq (by decide) (by decide)).trans fqe1)) rfl (by decide +kernel) (by decide)
      rcases step_told IC hsC wC hi hj ht (by omega) hk4 cC with ⟨e, ne⟩ | ⟨T, at', t, d, i, j, eT, he, tq, IT, tT, wy, b1, b2⟩
      · rw [e, if_pos rfl] at eF
        refine refuse HC IC hsC eF (fun _ => ?_)
        obtain ⟨Y, eY, fx, -⟩ := no_after IC hsC wC hi hj ht (by omega) hk4 cC TQ.rf ne (H := sFI (sFI HC 1043 0 0) 1043 0 0) (MA.fx (h := HC) (H := HC) ⟨fun _ _ _ => rfl, fun _ _ _ _ => rfl⟩ (fs := [1043]) (ss := []) ((FX.sfi (by decide)).trans (FX.sfi (by decide))) (by decide) (by decide))
        exact ⟨Y, fx, .inl eY⟩
      · obtain ⟨hsT, wT⟩ := IT.stops ((tq.2.1 403 (by decide) (by decide) 0).trans e403) h10
        have hc : Chn (xFR T) (xLS T 11) (xFR T 301 (xCN HC 3)) (rls T (xCN HC 3)) := by
          have := (tell_some IC.W hk4 (by rw [eT]; intro z; cases z)).2
          rw [eT] at this
          exact this
        rw [eT, if_neg (by intro z; cases z)] at eF
        dsimp only at eF
        have hb31 : xFI T 1031 0 = nI (xLS T 12) := IT.R.2.2.2.2.2.2.1
        have hb30 := IT.W.b30
        by_cases c : 30 ≤ nI (xLS T 12)
        · rw [if_pos c] at eF
          exact refuse T IT hsT eF (fun z => absurd (by rw [hb31]; exact c) z)
        · have h30 : xLS T 12 < 30 := cy_lt30 hb30 c
          rw [if_neg c] at eF
          by_cases cs : F_X8_hasSeats T (xCN HC 3) (rls T (xCN HC 3)) = 0
          · rw [if_pos cs] at eF
            refine refuse T IT hsT eF (fun _ => ?_)
            obtain ⟨wyT, Y, eY, fx, mY, fY⟩ := found_after IT.W IT.R hsT wT hi hj ht (by omega) hk4 cC tq he wy (H := sFI (sFI T 1043 0 0) 1043 0 0) (MA.fx (h := T) (H := T) ⟨fun _ _ _ => rfl, fun _ _ _ _ => rfl⟩ (fs := [1043]) (ss := []) ((FX.sfi (by decide)).trans (FX.sfi (by decide))) (by decide) (by decide))
            refine ⟨Y, fx, .inr ⟨eY, ?_⟩⟩
            have sl := seats_loop (A := T) (xa := nI ia) (xb := nI jb) (xt := nI tt) (jj := xCN HC 3) (R0 := rls T (xCN HC 3)) (kx := K_X9_book_50 T (nI ia) (nI jb) (nI tt) (nI k)) IT.W IT.R wT mY.2 (fx.2.1 1031 (by decide) 0) (by omega) wyT tT.self fY hk4 k 0 (2147483648 - 0 + 1) (by omega) (by omega)
            unfold F_X8_hasSeats at cs
            rw [tT.2.2.2.2.2.2.2.1] at cs sl
            rcases sl with ⟨x1, -⟩ | ⟨-, q, x2⟩
            · rw [x1] at cs
              exact absurd cs (by decide)
            · rw [x2]
              unfold K_X9_book_50
              rw [if_pos rfl]
          · rw [if_neg cs] at eF
            generalize hX : F_X1_fareOf (sNO T 1) (xCN HC 3) (rls T (xCN HC 3)) = fx1 at eF
            obtain ⟨fv0, X⟩ := fx1
            dsimp only at eF
            have fareOK : ∀ Y, (∀ s, s ∉ scA → ∀ i j, xAI Y s i j = xAI T s i j) → Way T n0 (Rc HC) (Ec HC) (tt / 1440 - 1) (tt / 1440 + 1) jb k (F_X5_end HC (nI k)).toInt at' t d i j → Found T Y k ia jb tt (F_X5_end HC (nI k)) at' t d i j →
                ∃ v X' Y', v ≤ 160000 ∧ F_X1_fareOf (sNO T 1) (xCN HC 3) (rls T (xCN HC 3)) = (nI v, X') ∧ FX [] [27] (sNO T 1) X' ∧ F_X9_fareOf (sAI (sFI Y 1031 0 (nI (xLS T 12) + 1)) 65 0 (xLS T 12) 0) = (nI v, Y') ∧ FX [] [64] (sAI (sFI Y 1031 0 (nI (xLS T 12) + 1)) 65 0 (xLS T 12) 0) Y' := fun Y mY wyT fY =>
              fare_eq IT wT mY (by omega) wyT tT.self fY hk4 (fun f hf i => if_neg (fun z => hf z.1)) (fun f hf i => if_neg (fun z => hf z.1)) (fun _ _ _ => rfl) (fun s hs j => ai_ne hs) ((fi_ai _ _ _ _ _ _ _).trans (fi_ne (by decide)))
            obtain ⟨fv, ev, qX⟩ : ∃ fv, fv0 = nI fv ∧ FX [] [27] (sNO T 1) X := by
              obtain ⟨wyT, Y, eY, fx, mY, fY⟩ := found_after IT.W IT.R hsT wT hi hj ht (by omega) hk4 cC tq he wy (H := T) ⟨fun _ _ _ => rfl, fun _ _ _ _ => rfl⟩
              obtain ⟨v, X', Y', -, e1, q1, -⟩ := fareOK Y mY.2 wyT fY
              rw [hX] at e1
              cases e1
              exact ⟨v, rfl, q1⟩
            subst ev
            have nb := bookC IT.C (jr := xCN HC 3) (fv := fv) qX
            generalize hH : H_add (F_X0_init X (xCN T 1) (xCN HC 3) (nI fv) (xFI X 905 0)) 12 (xCN T 1) = H at eF nb
            have eA : A1_book h (nI ia) (nI jb) (nI tt) (nI k) = sAL H (nI (xLS T 12)).toInt64 := by unfold A1_book; rw [eF]; rfl
            rw [eA, eF]
            have p2 : okWM (sAL H (nI (xLS T 12)).toInt64) (nI ia) (nI jb) (nI tt) := (okWM_iff h10 hs0.2.1 ((nb.2.1.1 1000 0 (.inl (by decide)) (by decide)).trans hsT.2.2.1)).mpr p
            have mH : MA T (sFI (sFI (sAL H (nI (xLS T 12)).toInt64) 1043 0 0) 1043 0 0) := MA.fx (h := T) (H := sAL H (nI (xLS T 12)).toInt64) ⟨fun f hf i => by
              simp only [List.mem_cons, List.not_mem_nil, or_false] at hf
              rcases hf with rfl | rfl <;> exact nb.2.1.1 _ i (.inl (by decide)) (by decide), fun s hs i j => nb.2.2.1 s (fun z => by
              subst z
              exact hs (by decide)) i j⟩ (fs := [1043]) (ss := []) ((FX.sfi (by decide)).trans (FX.sfi (by decide))) (by decide) (by decide)
            obtain ⟨wyT, Y, eY, fx, mY, fY⟩ := found_after IT.W IT.R hsT wT hi hj ht (by omega) hk4 cC tq he wy mH
            have y31 : xFI Y 1031 0 = nI (xLS T 12) := (fx.2.1 1031 (by decide) 0).trans ((nb.2.1.1 1031 0 (.inl (by decide)) (by decide)).trans hb31)
            obtain ⟨v, X', Y', -, e1, q1, e2, q2⟩ := fareOK Y mY.2 wyT fY
            rw [hX] at e1
            have ev : nI fv = nI v := congrArg Prod.fst e1
            rw [← ev] at e2
            have sl := seats_loop (A := sAL H (nI (xLS T 12)).toInt64) (xa := nI ia) (xb := nI jb) (xt := nI tt) (jj := xCN HC 3) (R0 := rls T (xCN HC 3)) (kx := K_X9_book_50 (sAL H (nI (xLS T 12)).toInt64) (nI ia) (nI jb) (nI tt) (nI k)) IT.W IT.R wT mY.2 (y31.trans hb31.symm) (by omega) wyT tT.self fY hk4 k 0 (2147483648 - 0 + 1) (by omega) (by omega)
            unfold F_X8_hasSeats at cs
            rw [tT.2.2.2.2.2.2.2.1] at cs sl
            rcases sl with ⟨-, q, x2⟩ | ⟨x1, -⟩
            · obtain ⟨W9, eK, bk⟩ := m_book (A := sAL H (nI (xLS T 12)).toInt64) (a := nI ia) (b := nI jb) (ti := nI tt) (k := q) h30 hk4 y31 e2
              have eM : F_X9_book (sAL H (nI (xLS T 12)).toInt64) (nI ia) (nI jb) (nI tt) (nI k) = (nI (xLS T 12), W9) := by
                unfold F_X9_book
                rw [if_pos pn, if_pos p2, if_neg (show ¬ 30 ≤ xFI (sFI (sFI (sAL H (nI (xLS T 12)).toInt64) 1043 0 0) 1043 0 0) 1031 0 from by
                  rw [show xFI (sFI (sFI (sAL H (nI (xLS T 12)).toInt64) 1043 0 0) 1043 0 0) 1031 0 = nI (xLS T 12) from (nb.2.1.1 1031 0 (.inl (by decide)) (by decide)).trans hb31]
                  exact c), ck, eY, if_neg (by decide : ¬ (1 : Int32) = 0)]
                exact x2.trans eK
              rw [eM]
              have fx2 : FX [1021, 1022, 1023, 1043] [57, 58, 59, 60, 61, 62, 63] (sAL H (nI (xLS T 12)).toInt64) Y := ((FX.sfi (by decide)).trans (FX.sfi (by decide))).trans (fx.mono (by decide) (by decide))
              refine ⟨⟨fun f g1 g2 g3 => (nb.1.1 f 0 (.inl (by omega))).trans (IT.MW f g1 g2 g3), IT.D.newB nb, ⟨fun x => (nb.2.2.1 16 (by decide) 0 x).trans (IT.S.1 x), nb.2.2.2.1.2.2.trans IT.S.2⟩⟩, fun m => book_inv IT hsT wT (by omega) wyT tT.self (by omega) hk4 h30 nb hc fx2 fY q2 bk m.2, ?_, fun _ => ?_⟩
              · rw [bk.2.1, q2.2.1 1043 (by simp), fi_ai, fi_ne (by decide), fx.2.1 1043 (by decide)]
                rfl
              · have s1 : SR (sAL H (nI (xLS T 12)).toInt64) W9 := fx2.1.trans ((show SR Y (sAI (sFI Y 1031 0 (nI (xLS T 12) + 1)) 65 0 (xLS T 12) 0) from ⟨rfl, rfl⟩).trans (q2.1.trans bk.1))
                exact (al_sr s1).trans rfl
            · exact absurd x1 cs
    · have e8 : F_X8_book h a b ti n = (.inr cy_e1, h) := by unfold F_X8_book; rw [if_pos p, if_neg pn]
      have eA : A1_book h a b ti n = h := by unfold A1_book; rw [e8]; rfl
      rw [eA, e8]
      unfold F_X9_book
      rw [if_neg pn]
      exact ag_way1 I (by decide +kernel) (by decide +kernel) ee (aw0_eq h10 hs0.2.1 hs0.2.2.1 a b ti)
  · have e8 : F_X8_book h a b ti n = (.inr (eW h a b), h) := by unfold F_X8_book; rw [if_neg p]
    have eA : A1_book h a b ti n = h := by unfold A1_book; rw [e8]; rfl
    rw [eA, e8]
    unfold F_X9_book
    by_cases pn : okR n 1 4
    · rw [if_pos pn, if_neg (fun q => p ((okWM_iff h10 hs0.2.1 hs0.2.2.1).mp q))]
      exact ag_way I (by decide +kernel) (by decide +kernel) (aw1_eq h10 hs0.2.1 hs0.2.2.1 p)
    · rw [if_neg pn]
      exact ag_way I (by decide +kernel) (by decide +kernel) (aw0_eq h10 hs0.2.1 hs0.2.2.1 a b ti)
