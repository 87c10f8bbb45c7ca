/-! ===== own: a grown heap tells the same ===== -/
theorem TR.cg {h h' : Hp} {n k : Nat} (hk : k < 20) (f8 : ∀ f, f ∈ [800, 801, 802, 803, 810, 811] → xFI h' f k = xFI h f k) (r28 : ∀ s, 28 ≤ s → s ≤ 33 → ∀ j, xAI h' s k j = xAI h s k j) (r42 : ∀ s, 42 ≤ s → s ≤ 46 → xAI h' s 0 k = xAI h s 0 k)
    (r47 : ∀ s, 47 ≤ s → s ≤ 49 → ∀ p, p < 6 → xAI h' s 0 (6 * k + p) = xAI h s 0 (6 * k + p)) (r50 : ∀ s, 50 ≤ s → s ≤ 51 → ∀ d, d < 100 → xAI h' s 0 (100 * k + d) = xAI h s 0 (100 * k + d)) (r52 : xAI h' 52 0 k = xAI h 52 0 k) (r53 : ∀ i, i < 30 → xAI h' 53 0 (30 * k + i) = xAI h 53 0 (30 * k + i)) (q : TR h n k) : TR h' n k := by
  obtain ⟨a1, ⟨m, m1, m2, m3⟩, ⟨f, f1, f2, f3⟩, a4, ⟨len, st, lv, ar, q1, q2, q3, q4, q5⟩, dy, ⟨cc, c1, c2, c3, c4⟩⟩ := q
  refine ⟨(f8 800 (by decide)).trans a1, ⟨m, m1, (f8 801 (by decide)).trans m2, (r42 42 (by decide) (by decide)).trans m3⟩, ⟨f, f1, (f8 802 (by decide)).trans f2, (r42 43 (by decide) (by decide)).trans f3⟩, (f8 803 (by decide)).trans (a4.trans (r42 44 (by decide) (by decide)).symm), ⟨len, st, lv, ar, q1, q2, (f8 810 (by decide)).trans q3, (r42 46 (by decide) (by decide)).trans q4, fun p hp => ?_⟩, fun d hd => ?_, ⟨cc, c1, (f8 811 (by decide)).trans c2, r52.trans c3, fun i hi => ?_⟩⟩
  · obtain ⟨s1, s2, s3, s4, s5, s6, s7⟩ := q5 p hp
    refine ⟨(r28 28 (by decide) (by decide) p).trans s1, (r47 47 (by decide) (by decide) p (by omega)).trans s2, s3, (r28 30 (by decide) (by decide) p).trans s4, (r47 49 (by decide) (by decide) p (by omega)).trans s5, s6, fun h0 => ?_⟩
    obtain ⟨u1, u2, u3⟩ := s7 h0
    exact ⟨(r28 29 (by decide) (by decide) p).trans u1, (r47 48 (by decide) (by decide) p (by omega)).trans u2, u3⟩
  · obtain ⟨d1, d2, d3, d4⟩ := dy d hd
    have e : F_X9_isRun h' (nI k) (nI d) = F_X9_isRun h (nI k) (nI d) := by
      unfold F_X9_isRun
      rw [xi100, nI_clamp (show 100 * k + d < 2 ^ 31 by omega), nI_clamp (show k < 2 ^ 31 by omega), r50 50 (by decide) (by decide) d hd, r42 45 (by decide) (by decide)]
    unfold TDay
    rw [e, r28 31 (by decide) (by decide), r28 32 (by decide) (by decide), r50 51 (by decide) (by decide) d hd]
    exact ⟨d1, d2, d3, d4⟩
  · rw [r28 33 (by decide) (by decide), r53 i (by omega)]
    exact c4 i hi
theorem BR.cg {h h' : Hp} {b : Nat} (eb : bj h' b = bj h b) (er : rls h' (bj h b) = rls h (bj h b)) (f1 : ∀ f, f ∈ [101, 102, 103] → xFI h' f b = xFI h f b) (f3 : ∀ f, f ∈ [300, 302, 303, 304] → xFI h' f (bj h b) = xFI h f (bj h b))
    (r65 : ∀ s, 65 ≤ s → s ≤ 70 → xAI h' s 0 b = xAI h s 0 b) (r71 : ∀ s, 71 ≤ s → s ≤ 74 → ∀ k, k < 4 → xAI h' s 0 (4 * b + k) = xAI h s 0 (4 * b + k)) (r75 : ∀ k, k ≤ 4 → xAI h' 75 0 (5 * b + k) = xAI h 75 0 (5 * b + k))
    (rd : ∀ r, r ∈ rls h (bj h b) → tr h' r = tr h r ∧ (∀ f, f ∈ [501, 502, 503, 505] → xFI h' f r = xFI h f r) ∧ xFI h' 810 (tr h r) = xFI h 810 (tr h r)) (q : BR h b) : BR h' b := by
  obtain ⟨q1, q2, q3, q4, q5, q6, q7, q8, q9, q10, q11⟩ := q
  unfold BR
  rw [eb, er]
  refine ⟨(f1 103 (by decide)).trans (q1.trans (r65 65 (by decide) (by decide)).symm), (f1 101 (by decide)).trans (q2.trans (r65 66 (by decide) (by decide)).symm), (f1 102 (by decide)).trans (q3.trans (r65 68 (by decide) (by decide)).symm), q4, q5, (f3 302 (by decide)).trans q6, (r65 67 (by decide) (by decide)).trans q7,
    (f3 300 (by decide)).trans (q8.trans (r65 69 (by decide) (by decide)).symm), (f3 304 (by decide)).trans (q9.trans (r65 70 (by decide) (by decide)).symm), (f3 303 (by decide)).trans (q10.trans (r75 _ q5).symm), fun k r hk => ?_⟩
  have hm : r ∈ rls h (bj h b) := List.mem_of_getElem? hk
  have hk4 : k < 4 := by
    have := (List.getElem?_eq_some_iff.mp hk).1
    omega
  obtain ⟨t1, t2, t3⟩ := rd r hm
  have z := q11 k r hk
  unfold BRide at z ⊢
  rw [t1, t3, t2 501 (by decide), t2 502 (by decide), t2 503 (by decide), t2 505 (by decide), r71 71 (by decide) (by decide) k hk4, r71 72 (by decide) (by decide) k hk4, r71 73 (by decide) (by decide) k hk4, r71 74 (by decide) (by decide) k hk4, r75 k (by omega)]
  exact z
/-- a place of what was there -/
def oldW (h : Hp) (f i : Nat) : Prop := (f / 100 = 5 → i < xCN h 5) ∧ (f / 100 = 3 → i < xCN h 3) ∧ (f / 100 = 1 → i < xLS h 12)
/-- new rides, journeys, a booking not listed yet -/
def GW (h h' : Hp) : Prop :=
  (∀ f i, oldW h f i → xFR h' f i = xFR h f i) ∧ (∀ f, f ∉ scF → f ≠ 1200 → ∀ i, oldW h f i → xFI h' f i = xFI h f i) ∧ (∀ s, s ∉ scA → ∀ i j, xAI h' s i j = xAI h s i j) ∧
  xLS h' = xLS h ∧ xLE h' = xLE h ∧ xCN h 3 ≤ xCN h' 3 ∧ xCN h 5 ≤ xCN h' 5 ∧ xCN h' 15 = xCN h 15
theorem GR.gw {h h' : Hp} (g : GR h h') : GW h h' := ⟨fun f i o => g.1 f i ⟨o.1, o.2.1⟩, fun f hf _ i o => g.2.1 f hf i ⟨o.1, o.2.1⟩, g.2.2.1, g.ls, g.le, g.2.2.2.2.1, g.2.2.2.2.2.1, g.2.2.2.1 15 (by decide) (by decide)⟩
theorem GW.fi {h h' : Hp} (g : GW h h') {f : Nat} (hf : f ∉ scF) (h12 : f ≠ 1200) (h5 : f / 100 ≠ 5) (h3 : f / 100 ≠ 3) (h1 : f / 100 ≠ 1) (i : Nat) : xFI h' f i = xFI h f i := g.2.1 f hf h12 i ⟨fun e => absurd e h5, fun e => absurd e h3, fun e => absurd e h1⟩
theorem GW.fr {h h' : Hp} (g : GW h h') {f : Nat} (i : Nat) (h5 : f / 100 ≠ 5) (h3 : f / 100 ≠ 3) (h1 : f / 100 ≠ 1) : xFR h' f i = xFR h f i := g.1 f i ⟨fun e => absurd e h5, fun e => absurd e h3, fun e => absurd e h1⟩
theorem GW.bk {h h' : Hp} (g : GW h h') {b : Nat} (hb : b < xLS h 12) : bj h' b = bj h b := by
  unfold bj
  rw [g.1 100 b ⟨fun e => absurd e (by decide), fun e => absurd e (by decide), fun _ => hb⟩]
theorem GW.rl {h h' : Hp} (g : GW h h') {j : Nat} (hj : j < xCN h 3) (hr : ∀ r, r ∈ rls h j → r < xCN h 5) : rls h' j = rls h j := by
  unfold rls at hr ⊢
  rw [g.1 301 j ⟨fun e => absurd e (by decide), fun _ => hj, fun e => absurd e (by decide)⟩]
  exact chs_old (fun r hr => g.1 504 r ⟨fun _ => hr, fun e => absurd e (by decide), fun e => absurd e (by decide)⟩) 5 _ hr
theorem GW.cw {h h' : Hp} (g : GW h h') (W : CW h) : CW h' := by
  have f1 : ∀ f ∈ cw_f1, f / 100 ≠ 5 ∧ f / 100 ≠ 3 ∧ f / 100 ≠ 1 := by decide
  have f2 : ∀ f ∈ cw_f2, f / 100 ≠ 5 ∧ f / 100 ≠ 3 ∧ f / 100 ≠ 1 := by decide
  have g0 := g
  obtain ⟨-, -, -, gs, ge, g3, g5, g15⟩ := g0
  refine ⟨fun f hf => ?_, fun t ht => ?_, ?_, ?_, ?_, fun b hb => ?_⟩
  · rw [g.fr 0 (f1 f hf).1 (f1 f hf).2.1 (f1 f hf).2.2]; exact W.fr hf
  · rw [gs] at ht
    rw [ge]
    exact ⟨W.tle ht, fun f hf => by rw [g.fr t (f2 f hf).1 (f2 f hf).2.1 (f2 f hf).2.2]; exact W.tfr ht hf⟩
  · rw [gs]; exact W.t20
  · rw [gs]; exact W.b30
  · rw [g15]; exact W.c15
  · rw [gs] at hb
    have hr : ∀ r, r ∈ rls h (bj h b) → r < xCN h 5 := fun r hr => W.r5 hb hr
    rw [ge, gs, g.bk hb, g.rl (W.j3 hb) hr]
    refine ⟨W.ble hb, ?_, ?_, Nat.lt_of_lt_of_le (W.j3 hb) g3, fun r hr' => Nat.lt_of_lt_of_le (hr r hr') g5⟩
    · rw [g.1 100 b ⟨fun e => absurd e (by decide), fun e => absurd e (by decide), fun _ => hb⟩]; exact W.jb hb
    · rw [g.1 301 _ ⟨fun e => absurd e (by decide), fun _ => W.j3 hb, fun e => absurd e (by decide)⟩]
      exact Chn.old (m := xCN h 5) (fun r hr => ⟨g.1 500 r ⟨fun _ => hr, fun e => absurd e (by decide), fun e => absurd e (by decide)⟩, g.1 504 r ⟨fun _ => hr, fun e => absurd e (by decide), fun e => absurd e (by decide)⟩⟩) hr (W.jc hb)
theorem RC.gw {h h' : Hp} (H : RC h) (W : CW h) (g : GW h h') : RC h' := by
  have h20 := W.t20
  have gF : ∀ {f : Nat} (i : Nat), f ∉ scF → f ≠ 1200 → f / 100 ≠ 5 → f / 100 ≠ 3 → f / 100 ≠ 1 → xFI h' f i = xFI h f i := fun i a b c d e => g.fi a b c d e i
  have gA : ∀ s, s ∉ scA → ∀ i j, xAI h' s i j = xAI h s i j := g.2.2.1
  have n28 : ∀ s, 28 ≤ s → s ≤ 33 → s ∉ scA := fun s a b => by
    rcases (show s = 28 ∨ s = 29 ∨ s = 30 ∨ s = 31 ∨ s = 32 ∨ s = 33 by omega) with rfl | rfl | rfl | rfl | rfl | rfl <;> decide
  have n42 : ∀ s, 42 ≤ s → s ≤ 46 → s ∉ scA := fun s a b => by
    rcases (show s = 42 ∨ s = 43 ∨ s = 44 ∨ s = 45 ∨ s = 46 by omega) with rfl | rfl | rfl | rfl | rfl <;> decide
  have n47 : ∀ s, 47 ≤ s → s ≤ 51 → s ∉ scA := fun s a b => by
    rcases (show s = 47 ∨ s = 48 ∨ s = 49 ∨ s = 50 ∨ s = 51 by omega) with rfl | rfl | rfl | rfl | rfl <;> decide
  have n65 : ∀ s, 65 ≤ s → s ≤ 70 → s ∉ scA := fun s a b => by
    rcases (show s = 65 ∨ s = 66 ∨ s = 67 ∨ s = 68 ∨ s = 69 ∨ s = 70 by omega) with rfl | rfl | rfl | rfl | rfl | rfl <;> decide
  have n71 : ∀ s, 71 ≤ s → s ≤ 74 → s ∉ scA := fun s a b => by
    rcases (show s = 71 ∨ s = 72 ∨ s = 73 ∨ s = 74 by omega) with rfl | rfl | rfl | rfl <;> decide
  have eL : xLS h' = xLS h := g.2.2.2.1
  obtain ⟨⟨n, r1, r2⟩, r3, r4, r5, r6, r7, r8, r9, r10, r11, r12⟩ := H
  refine ⟨⟨n, ⟨r1.1, (gF 0 (by decide) (by decide) (by decide) (by decide) (by decide)).trans r1.2.1, (gF 0 (by decide) (by decide) (by decide) (by decide) (by decide)).trans r1.2.2.1, fun s hs => ?_⟩, fun t ht => ?_⟩, ⟨fun a b ha hb => ?_, fun a ha => ?_⟩, ?_, fun t h1 h2 => ?_, fun f hf => ?_, ?_, ?_, fun b hb => ?_, ?_, ?_, ?_⟩
  · rw [gA 22 (by decide), gA 40 (by decide)]
    exact r1.2.2.2 s hs
  · rw [eL] at ht
    refine TR.cg (by omega) (fun f hf => ?_) (fun s a b j => gA s (n28 s a b) _ _) (fun s a b => gA s (n42 s a b) _ _) (fun s a b p _ => gA s (n47 s (by omega) (by omega)) _ _) (fun s a b d _ => gA s (n47 s (by omega) (by omega)) _ _) (gA 52 (by decide) _ _) (fun i _ => gA 53 (by decide) _ _) (r2 t ht)
    simp only [List.mem_cons, List.not_mem_nil, or_false] at hf
    rcases hf with rfl | rfl | rfl | rfl | rfl | rfl <;> exact gF t (by decide) (by decide) (by decide) (by decide) (by decide)
  · rw [gA 23 (by decide), gA 41 (by decide)]
    exact r3.1 a b ha hb
  · rw [gA 41 (by decide)]
    exact r3.2 a ha
  · rw [gF 0 (by decide) (by decide) (by decide) (by decide) (by decide), eL]
    exact r4
  · rw [eL] at h1
    obtain ⟨u1, u2⟩ := r5 t h1 h2
    refine ⟨fun d hd => ?_, (gA 52 (by decide) _ _).trans u2⟩
    rw [gA 50 (by decide), gA 51 (by decide)]
    exact u1 d hd
  · rw [gA 24 (by decide), gA 54 (by decide), gA 25 (by decide), gA 55 (by decide), gA 26 (by decide), gA 56 (by decide)]
    exact r6 f hf
  · rw [gF (f := 905) 0 (by decide) (by decide) (by decide) (by decide) (by decide), gF (f := 1030) 0 (by decide) (by decide) (by decide) (by decide) (by decide)]
    exact r7
  · rw [gF 0 (by decide) (by decide) (by decide) (by decide) (by decide), eL]
    exact r8
  · rw [eL] at hb
    have hj := W.j3 hb
    have hr : ∀ r, r ∈ rls h (bj h b) → r < xCN h 5 := fun r hr => W.r5 hb hr
    refine BR.cg (g.bk hb) (g.rl hj hr) (fun f hf => ?_) (fun f hf => ?_) (fun s a b => gA s (n65 s a b) _ _) (fun s a b k _ => gA s (n71 s a b) _ _) (fun k _ => gA 75 (by decide) _ _) (fun r hm => ⟨?_, fun f hf => ?_, gF _ (by decide) (by decide) (by decide) (by decide) (by decide)⟩) (r9 b hb)
    · simp only [List.mem_cons, List.not_mem_nil, or_false] at hf
      rcases hf with rfl | rfl | rfl <;> exact g.2.1 _ (by decide) (by decide) b ⟨fun e => absurd e (by decide), fun e => absurd e (by decide), fun _ => hb⟩
    · simp only [List.mem_cons, List.not_mem_nil, or_false] at hf
      rcases hf with rfl | rfl | rfl | rfl <;> exact g.2.1 _ (by decide) (by decide) _ ⟨fun e => absurd e (by decide), fun _ => hj, fun e => absurd e (by decide)⟩
    · unfold tr
      rw [g.1 500 r ⟨fun _ => hr r hm, fun e => absurd e (by decide), fun e => absurd e (by decide)⟩]
    · simp only [List.mem_cons, List.not_mem_nil, or_false] at hf
      rcases hf with rfl | rfl | rfl | rfl <;> exact g.2.1 _ (by decide) (by decide) _ ⟨fun _ => hr r hm, fun e => absurd e (by decide), fun e => absurd e (by decide)⟩
  · rw [gA 15 (by decide)]
    exact r10
  · rw [gA 15 (by decide)]
    exact r11
  · rw [gA 15 (by decide)]
    exact r12
theorem RC.gr {h h' : Hp} (H : RC h) (W : CW h) (g : GR h h') : RC h' := H.gw W g.gw
theorem SCR.gr {S : Nat → Int32} {n : Nat} {h h' : Hp} (H : SCR S n h) (g : GR h h') : SCR S n h' := ⟨fun j => (g.2.2.1 16 (by decide) 0 j).trans (H.1 j), by rw [g.ls]; exact H.2⟩
theorem Inv.gr {S : Nat → Int32} {n : Nat} {h h' : Hp} (I : Inv S n h) (g : GR h h') (D : DM h') : Inv S n h' := ⟨g.cw I.W, g.cn I.C, g.mw I.MW, D, I.S.gr g, I.R.gr I.W g⟩
theorem DM.tq {h h' : Hp} (D : DM h) (q : TQ h h') : DM h' :=
  have e : ∀ x, x ∈ dm_f → x.1 / 100 ≠ 5 ∧ x.1 / 100 ≠ 3 := by decide
  ⟨fun s b hs j => by rw [q.1]; exact D.1 s b hs j, fun f b hf => by rw [q.2.1 f (e _ hf).1 (e _ hf).2]; exact D.2 f b hf⟩
theorem TQ.walk {h X : Hp} (q : TQ h X) (a b : Int32) : F_X3_walk X a b = F_X3_walk h a b := by
  unfold F_X3_walk
  rw [q.at]
theorem TQ.arrAt {h X : Hp} (q : TQ h X) (k s : Int32) : F_X5_arrivalAt X k s = F_X5_arrivalAt h k s := by
  unfold F_X5_arrivalAt
  rw [q.at]
theorem TQ.eend {h X : Hp} (q : TQ h X) (k : Int32) : F_X5_end X k = F_X5_end h k := by
  have ef : ∀ s, F_X5_endFrom X s k = F_X5_endFrom h s k := fun s => by
    unfold F_X5_endFrom
    rw [q.arrAt, q.walk, q.2.1 604 (by decide) (by decide)]
  have key : ∀ (fu : Nat) (e : Int32) (s : Nat), L_X5_end_5 X k fu e s = L_X5_end_5 h k fu e s := by
    intro fu
    induction fu with
    | zero => intro e s; rfl
    | succ fu ih =>
      intro e s
      rw [L_X5_end_5_s, L_X5_end_5_s]
      unfold B_X5_end_5
      rw [q.2.1 403 (by decide) (by decide), ef, ih]
  exact key _ _ _
theorem TQ.eR0 {h X : Hp} (q : TQ h X) (a ti s : Nat) (v : Int) : R0 X a ti s v ↔ R0 h a ti s v := by
  unfold R0
  rw [q.1]
theorem TQ.eCand {h X : Hp} (q : TQ h X) (R : Nat → Int) (fd ld s : Nat) (v : Int) : CandT X R fd ld (xLS X 11) s v ↔ CandT h R fd ld (xLS h 11) s v := by
  unfold CandT Cand
  rw [q.2.2.2]
  simp only [q.eSt, q.eLn, q.eDp, q.eAr, q.eGo]
theorem TQ.eRdy {h X : Hp} (q : TQ h X) (n0 : Nat) (E : Nat → Int) (s : Nat) (v : Int) : Rdy X n0 E s v ↔ Rdy h n0 E s v := by
  unfold Rdy
  simp only [q.eCh]
theorem FX.eR0 {fs : List Nat} {h X : Hp} (q : FX fs ss2 h X) (a ti s : Nat) (v : Int) : R0 X a ti s v ↔ R0 h a ti s v := by
  unfold R0
  rw [q.2.2 23 (by decide)]
theorem FX.eRdy {fs : List Nat} {h X : Hp} (q : FX fs ss2 h X) (n0 : Nat) (E : Nat → Int) (s : Nat) (v : Int) : Rdy X n0 E s v ↔ Rdy h n0 E s v := by
  unfold Rdy
  simp only [chI_fx q]
theorem FX.eCand {fs : List Nat} {h X : Hp} {n0 : Nat} (q : FX fs ss2 h X) (w : World h n0) (hf : 403 ∉ fs ∧ 810 ∉ fs) (R : Nat → Int) (fd ld s : Nat) (v : Int) : CandT X R fd ld (xLS X 11) s v ↔ CandT h R fd ld (xLS h 11) s v := by
  obtain ⟨-, e1, e2, e3, e4, e5⟩ := w.fx q hf
  unfold CandT Cand
  rw [ls_fx q]
  simp only [e1, e2, e3, e4, e5]
/-- what was found holds of the heap itself -/
theorem SearchC.self {h HC : Hp} {n0 n a b ti : Nat} (w : World h n0) (c : SearchC h HC n0 n a b ti) : SearchC HC HC n0 n a b ti := by
  obtain ⟨x, c3, c4, c5, c6, c7, c0, cs⟩ := c
  refine ⟨FX.rf, c3, c4, c5, c6, c7, fun s hs => (c0 s hs).same (fun v => x.eR0 a ti s v), fun m hm s hs => ?_⟩
  obtain ⟨l1, l2⟩ := cs m hm s hs
  exact ⟨l1.same (fun v => x.eCand w (by decide) _ _ _ s v), l2.same (fun v => x.eRdy n0 _ s v)⟩
theorem SearchC.tq {HC T : Hp} {n0 n a b ti : Nat} (c : SearchC HC HC n0 n a b ti) (q : TQ HC T) : SearchC T T n0 n a b ti := by
  obtain ⟨x, c3, c4, c5, c6, c7, c0, cs⟩ := c
  refine ⟨FX.rf, (q.2.1 603 (by decide) (by decide) 0).trans c3, (q.2.1 604 (by decide) (by decide) 0).trans c4, (q.2.1 605 (by decide) (by decide) 0).trans c5, (q.2.1 606 (by decide) (by decide) 0).trans c6, (q.2.1 607 (by decide) (by decide) 0).trans c7, fun s hs => ?_, fun m hm s hs => ?_⟩
  · rw [q.eRc]
    exact (c0 s hs).same (fun v => q.eR0 a ti s v)
  · obtain ⟨l1, l2⟩ := cs m hm s hs
    rw [q.eRc, q.eEc, q.eRc]
    exact ⟨l1.same (fun v => q.eCand _ _ _ s v), l2.same (fun v => q.eRdy n0 _ s v)⟩
theorem SearchC.mono {h HC : Hp} {n0 n m a b ti : Nat} (c : SearchC h HC n0 n a b ti) (hm : m ≤ n) : SearchC h HC n0 m a b ti := by
  obtain ⟨x, c3, c4, c5, c6, c7, c0, cs⟩ := c
  exact ⟨x, c3, c4, c5, c6, c7, c0, fun k hk => cs k (by omega)⟩
theorem TQ.eLSt {h X : Hp} (q : TQ h X) {n0 : Nat} {E : Nat → Int} {b : Nat} {e : Int} {s : Nat} (l : LSt h n0 E b e s) : LSt X n0 E b e s := by
  unfold LSt OKE at l ⊢
  simp only [q.eTo]
  exact l
theorem TQ.way {h X : Hp} (q : TQ h X) {n0 : Nat} {R E : Nat → Nat → Int} {fd ld b n : Nat} {e : Int} {at' t d i j : Nat → Nat} (w : Way h n0 R E fd ld b n e at' t d i j) : Way X n0 R E fd ld b n e at' t d i j := by
  refine ⟨q.eLSt w.1, fun m hm => ?_⟩
  obtain ⟨f, a⟩ := w.2 m hm
  refine ⟨q.fr f, fun h0 => ?_⟩
  have := q.ah (a h0)
  rw [q.eSt, q.eDp]
  exact this
/-- the reference finds the way that the class told -/
theorem finds_by {h : Hp} (W : CW h) (RR : RC h) {n0 a b ti n : Nat} (hs0 : RStop h n0) (w : World h n0) (ha : a < n0) (hb : b < n0) (hti : ti ≤ 140000) (hn : n ≠ 0) (hn4 : n ≤ 4) {HC H : Hp} (c : SearchC h HC n0 n a b ti) (mH : MA h H) (he : F_X5_end HC (nI n) < 1000000000)
    {at' t d i j : Nat → Nat} (wy : Way h n0 (Rc HC) (Ec HC) (ti / 1440 - 1) (ti / 1440 + 1) b n (F_X5_end HC (nI n)).toInt at' t d i j) :
    ∃ Y, F_X9_finds H (nI a) (nI b) (nI ti) n = (1, Y) ∧ FX [1021, 1022, 1023] [57, 58, 59, 60, 61, 62, 63] H Y ∧ Found h Y n a b ti (F_X5_end HC (nI n)) at' t d i j := by
  have sm0 := small_of RR hs0
  obtain ⟨sm, fx⟩ := reaches_spec (nn := n) W RR hs0 w mH ha hti hn4
  obtain ⟨rl, -⟩ := meet_end RR hs0 w ha hb hti hn4 c sm (Nat.le_refl n) hn
  rw [Int32.lt_iff_toInt_lt, N9] at he
  have e1 := rl.some he
  have e2 : 0 ≤ (F_X5_end HC (nI n)).toInt ∧ (F_X5_end HC (nI n)).toInt ≤ 300000 := by
    rcases rl with ⟨_, x, y⟩ | ⟨x, _⟩
    · exact ⟨x, y⟩
    · omega
  have wm := wy.rel w sm0 hb (by omega) hn (by omega) (fun k hk => (meet w sm0 ha hti c sm k hk).1) (fun k hk hk0 x hx => ((meet w sm0 ha hti c sm k hk).2 hk0 x hx).1)
  exact finds_some W RR hs0 w ha hb hti hn hn4 sm fx sm.2.2.2 (Int32.toInt_inj.mp e1) (by omega) wm (hEm_of w sm0 ha hti c sm)
theorem finds_no {S : Nat → Int32} {N : Nat} {h : Hp} (I : Inv S N h) {n0 a b ti n : Nat} (hs0 : RStop h n0) (w : World h n0) (ha : a < n0) (hb : b < n0) (hti : ti ≤ 140000) (hn : n ≠ 0) (hn4 : n ≤ 4) {HC H : Hp} (c : SearchC h HC n0 n a b ti) (mH : MA h H) (he : ¬ F_X5_end HC (nI n) < 1000000000) :
    ∃ Y, F_X9_finds H (nI a) (nI b) (nI ti) n = (0, Y) ∧ FX [1021, 1022, 1023] [57, 58, 59, 60, 61, 62, 63] H Y := by
  obtain ⟨sm, fx⟩ := reaches_spec (nn := n) I.W I.R hs0 w mH ha hti hn4
  obtain ⟨rl, -⟩ := meet_end I.R hs0 w ha hb hti hn4 c sm (Nat.le_refl n) hn
  rw [Int32.lt_iff_toInt_lt, N9] at he
  have e0 : F_X9_timeBy (F_X9_reaches H (nI a) (nI ti) (nI n)) (nI b) (nI n) = 100000000 := Int32.toInt_inj.mp ((rl.none.mp (by omega)).trans N8.symm)
  exact ⟨_, finds_none e0, ((fx.mono (by decide) (by decide)).trans (FX.sfi (by decide))).trans (FX.sfi (by decide))⟩
theorem Inv.stops {S : Nat → Int32} {N : Nat} {h : Hp} (I : Inv S N h) {n0 : Nat} (e : xFI h 403 0 = nI n0) (h10 : n0 ≤ 10) : RStop h n0 ∧ World h n0 := by
  obtain ⟨m, hs, w⟩ := world_of I.W I.R
  have h1 := hs.1
  obtain rfl : n0 = m := nI_inj (by omega) (by omega) (e.symm.trans hs.2.1)
  exact ⟨hs, w⟩
/-- one step: the class tells a journey by n rides, of a heap that holds a search; in the grown heap the reference finds the same -/
theorem step_told {S : Nat → Int32} {N : Nat} {h : Hp} (I : Inv S N h) {n0 a b ti n : Nat} (hs0 : RStop h n0) (w : World h n0) (ha : a < n0) (hb : b < n0) (hti : ti ≤ 140000) (hn : n ≠ 0) (hn4 : n ≤ 4) (c : SearchC h h n0 n a b ti) :
    (F_X5_tell h n = (none, h) ∧ ¬ F_X5_end h (nI n) < 1000000000) ∨
    ∃ T at' t d i j, F_X5_tell h n = (some (xCN h 3), T) ∧ F_X5_end h (nI n) < 1000000000 ∧ TQ h T ∧ Inv S N T ∧ ToldC h h T n a b ti (F_X5_end h (nI n)) at' t d i j ∧ Way h n0 (Rc h) (Ec h) (ti / 1440 - 1) (ti / 1440 + 1) b n (F_X5_end h (nI n)).toInt at' t d i j ∧ 0 ≤ (F_X5_end h (nI n)).toInt ∧ (F_X5_end h (nI n)).toInt ≤ 400000 := by
  have sm0 := small_of I.R hs0
  by_cases he : F_X5_end h (nI n) < 1000000000
  · obtain ⟨sm, -⟩ := reaches_spec (nn := n) I.W I.R hs0 w (⟨fun _ _ _ => rfl, fun _ _ _ _ => rfl⟩ : MA h h) ha hti hn4
    obtain ⟨at', t, d, i, j, wy, wm, et, b1, b2⟩ := ways I.R hs0 w ha hb hti hn hn4 c sm he
    obtain ⟨T, eT, tT⟩ := tell_told w sm0 ha hb hti hn hn4 c b2 wy (hEc_of w sm0 ha hti c sm)
    have g := tell_gr (h := h) n
    rw [eT] at g
    exact .inr ⟨T, at', t, d, i, j, eT, he, tT.1, I.gr g (I.D.tq tT.1), tT, wy, b1, b2⟩
  · exact .inl ⟨tell_none he, he⟩
