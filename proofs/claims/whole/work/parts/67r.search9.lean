/-! ===== own: both searches find the same ===== -/
theorem R0.bnd {h : Hp} {n0 a ti s : Nat} {v : Int} (sm : Small h n0) (ha : a < n0) (hs : s < n0) (hti : ti ≤ 140000) (r : R0 h a ti s v) : 0 ≤ v ∧ v ≤ 200000 := by
  rcases r with ⟨_, rfl⟩ | ⟨e, e1, rfl⟩
  · omega
  · have := sm a s ha hs
    unfold chI at this
    rw [if_neg (fun z => e z.symm)] at this
    rcases this with z | z
    · exact absurd z e1
    · omega
theorem LO.val2 {N : Int} {Q : Int → Prop} {v : Int} (l : LO N Q v) (hQ : ∀ a, Q a → 0 ≤ a ∧ a ≤ 200000) : v = N ∨ (0 ≤ v ∧ v ≤ 200000) := by
  rcases l with ⟨e, _⟩ | ⟨q, _⟩
  · exact .inl e
  · exact .inr (hQ v q)
theorem REL.lt {c m : Int} (r : REL c m) {x : Int} (hx : x ≤ 200000) : c ≤ x ↔ m ≤ x := by
  rcases r with ⟨rfl, _⟩ | ⟨rfl, rfl⟩
  · exact Iff.rfl
  · omega
theorem REL.le {c m c' m' : Int} (r : REL c m) (r' : REL c' m') : c ≤ c' ↔ m ≤ m' := by
  rcases r with ⟨rfl, _⟩ | ⟨rfl, rfl⟩ <;> rcases r' with ⟨rfl, _⟩ | ⟨rfl, rfl⟩ <;> omega
theorem REL.none {c m : Int} (r : REL c m) : 1000000000 ≤ c ↔ m = 100000000 := by
  rcases r with ⟨rfl, _⟩ | ⟨rfl, rfl⟩ <;> omega
theorem REL.some {c m : Int} (r : REL c m) (h : c < 1000000000) : m = c := by
  rcases r with ⟨rfl, _⟩ | ⟨rfl, rfl⟩
  · rfl
  · omega
theorem CandT.rel {h : Hp} {n0 fd ld : Nat} (w : World h n0) (hld : ld < 100) {R R' : Nat → Int} (r : ∀ s, s < n0 → REL (R s) (R' s)) (s : Nat) (v : Int) : CandT h R fd ld (xLS h 11) s v ↔ CandT h R' fd ld (xLS h 11) s v := by
  constructor
  · rintro ⟨t, d, h1, h2, h3, h4, i, j, h5, h6, h7, h8⟩
    have hi := ((w.2.2.2 t h1).2.2.2.1 i (by omega)).2
    have hd := ((w.2.2.2 t h1).2.2.2.2 d (by omega) h4).1 i (by omega)
    exact ⟨t, d, h1, h2, h3, h4, i, j, h5, h6, ((r _ hi).lt hd.2).mp h7, h8⟩
  · rintro ⟨t, d, h1, h2, h3, h4, i, j, h5, h6, h7, h8⟩
    have hi := ((w.2.2.2 t h1).2.2.2.1 i (by omega)).2
    have hd := ((w.2.2.2 t h1).2.2.2.2 d (by omega) h4).1 i (by omega)
    exact ⟨t, d, h1, h2, h3, h4, i, j, h5, h6, ((r _ hi).lt hd.2).mpr h7, h8⟩
theorem way_rel {n0 : Nat} {E E' : Nat → Int} {c : Nat → Int32} (r : ∀ s, s < n0 → REL (E s) (E' s)) (v : Int) : (∃ a, a < n0 ∧ E' a < 100000000 ∧ ¬ c a = -1 ∧ v = E' a + (c a).toInt) ↔ ∃ a, a < n0 ∧ E a < 1000000000 ∧ ¬ c a = -1 ∧ v = E a + (c a).toInt := by
  constructor
  · rintro ⟨a, h1, h2, h3, h4⟩
    have := r a h1
    rcases this with ⟨e, e1, e2⟩ | ⟨e, e1⟩
    · exact ⟨a, h1, by omega, h3, by omega⟩
    · omega
  · rintro ⟨a, h1, h2, h3, h4⟩
    have := r a h1
    rcases this with ⟨e, e1, e2⟩ | ⟨e, e1⟩
    · exact ⟨a, h1, by omega, h3, by omega⟩
    · omega
theorem meet {h HC HM : Hp} {n0 nn a b ti : Nat} (w : World h n0) (sm : Small h n0) (ha : a < n0) (hti : ti ≤ 140000) (c : SearchC h HC n0 nn a b ti) (m : SearchM h HM n0 nn a ti) : ∀ k, k ≤ nn →
    (∀ s, s < n0 → REL (Rc HC k s) (Rm HM k s)) ∧ (k ≠ 0 → ∀ s, s < n0 → REL (Ec HC k s) (Em HM k s) ∧ (Ec HC k s = 1000000000 ∨ (0 ≤ Ec HC k s ∧ Ec HC k s ≤ 200000))) := by
  obtain ⟨-, -, -, -, -, -, c0, cs⟩ := c
  obtain ⟨-, m0, ms, -⟩ := m
  have hld : ti / 1440 + 1 < 100 := by omega
  intro k
  induction k with
  | zero =>
    intro _
    refine ⟨fun s hs => REL.lo (c0 s hs) (m0 s hs) (fun v q => ?_), fun z => absurd rfl z⟩
    have := q.bnd sm ha hs hti
    omega
  | succ k ih =>
    intro hk
    obtain ⟨i1, -⟩ := ih (by omega)
    have rE : ∀ s, s < n0 → REL (Ec HC (k + 1) s) (Em HM (k + 1) s) ∧ (Ec HC (k + 1) s = 1000000000 ∨ (0 ≤ Ec HC (k + 1) s ∧ Ec HC (k + 1) s ≤ 200000)) := fun s hs => by
      obtain ⟨l1, -⟩ := cs k (by omega) s hs
      obtain ⟨l2, -⟩ := ms k (by omega) s hs
      refine ⟨REL.lo l1 (l2.same (fun v => CandT.rel w hld i1 s v)) (fun v q => ?_), l1.val2 (fun v q => q.bnd w hld)⟩
      have := q.bnd w hld
      omega
    refine ⟨fun s hs => ?_, fun _ => rE⟩
    obtain ⟨-, l1⟩ := cs k (by omega) s hs
    obtain ⟨-, l2⟩ := ms k (by omega) s hs
    refine REL.lo l1 (l2.same (fun v => (way_rel (c := fun x => chI h x s) (fun x hx => (rE x hx).1) v).symm)) (fun v q => ?_)
    obtain ⟨x, x1, x2, x3, rfl⟩ := q
    have := (rE x x1).2
    rcases sm x s x1 hs with z | z
    · exact absurd z x3
    · omega
/-- both ends -/
theorem meet_end {h HC HM : Hp} {n0 nn a b ti : Nat} (R : RC h) (hs0 : RStop h n0) (w : World h n0) (ha : a < n0) (hb : b < n0) (hti : ti ≤ 140000) (hnn : nn ≤ 4) (c : SearchC h HC n0 nn a b ti) (m : SearchM h HM n0 nn a ti) {k : Nat} (hk : k ≤ nn) (hk0 : k ≠ 0) :
    REL (F_X5_end HC (nI k)).toInt (F_X9_timeBy HM (nI b) (nI k)).toInt ∧ LO 1000000000 (EndQ h n0 (Ec HC k) b) (F_X5_end HC (nI k)).toInt := by
  have sm := small_of R hs0
  obtain ⟨-, rE⟩ := meet w sm ha hti c m k hk
  have rE := rE hk0
  obtain ⟨w', -⟩ := w.fx c.1 (by decide)
  have sm' : Small HC n0 := fun x y hx hy => by rw [chI_fx c.1]; exact sm x y hx hy
  have lc := end_spec w' sm' (show k < 5 by omega) hb c.2.2.1 (fun s hs => by have := (rE s hs).2; omega)
  have lm := timeBy_spec R hs0 m.1 (show k < 5 by omega) hb (fun s hs => by
    have := (rE s hs).1
    unfold REL at this
    omega)
  have eb : ∀ s, toB HC b s = toB h b s := fun s => by unfold toB; rw [c.1.2.2 23 (by decide)]
  have lc2 : LO 1000000000 (fun v => ∃ s, s < n0 ∧ Ec HC k s < 1000000000 ∧ ¬ toB h b s = -1 ∧ v = Ec HC k s + (toB h b s).toInt) (F_X5_end HC (nI k)).toInt := lc.same (fun v => by
    rw [EndQ.alt]
    simp only [eb])
  refine ⟨REL.lo lc2 (lm.same (fun v => (way_rel (c := toB h b) (fun x hx => (rE x hx).1) v).symm)) (fun v q => ?_), lc2.same (fun v => EndQ.alt)⟩
  obtain ⟨x, x1, x2, x3, rfl⟩ := q
  have := (rE x x1).2
  rcases toB_sm sm hb x1 with z | z
  · exact absurd z x3
  · omega
/-! ===== own: calls of the search ===== -/
theorem FX.fq {fs ss : List Nat} {h h' : Hp} (x : FX fs ss h h') (h1 : ∀ f, f ∈ fs → f ∈ scF) (h2 : ∀ s, s ∈ ss → s ∈ scA) : FQ h h' := ⟨x.1, fun f hf => x.2.1 f (fun q => hf (h1 f q)), fun s hs => x.2.2 s (fun q => hs (h2 s q))⟩
theorem DM.fx {fs ss : List Nat} {h h' : Hp} (D : DM h) (x : FX fs ss h h') (h1 : ∀ q, q ∈ dm_f → q.1 ∉ fs) (h2 : ∀ q, q ∈ dm_a → q.1 ∉ ss) : DM h' := ⟨fun s b hs j => by rw [x.2.2 s (h2 _ hs)]; exact D.1 s b hs j, fun f b hf => by rw [x.2.1 f (h1 _ hf)]; exact D.2 f b hf⟩
theorem al_sr {h h' : Hp} (x : SR h h') : xAL h' 0 = xAL h 0 := congrArg (fun x => x.2.2.2.1 0) x.2
theorem MA.fq {h h' : Hp} (x : FQ h h') : MA h h' := ⟨fun f hf => x.2.1 f (ma_f f hf), x.2.2⟩
theorem MA.al {h h' : Hp} {v : Int64} (x : MA h h') : MA h (sAL h' v) := x
/-- a call answered -/
theorem ag_ans {S : Nat → Int32} {N : Nat} {h HC mh : Hp} (I : Inv S N h) {l : List String} {x : Int32} {v : Int64} {V : Prop} (hc : FQ h HC) (D : DM HC) (q : FQ (sAL HC v) mh) (e : xFI mh 1043 0 = 0) (hV : V) : AG S N l (.inl (some (.inl (.int x)))) (sAL HC v) mh V :=
  have md : Mid S N HC := ⟨I.MW.sr hc.1, D, I.S.fq hc⟩
  ⟨md, fun m => ((I.fq hc D).al (v := v)).fq q m.2, e, fun _ => hV⟩
theorem okWM_iff {h A : Hp} {n0 : Nat} (hn : n0 ≤ 10) (h4 : xFI h 403 0 = nI n0) (h1 : xFI A 1000 0 = nI n0) {a b ti : Int32} : okWM A a b ti ↔ okW h a b ti := by
  unfold okWM okW
  rw [h1, okM_iff (by omega), okM_iff (by omega), okS_iff h4 hn, okS_iff h4 hn]
theorem aw1_eq {h A : Hp} {n0 : Nat} (hn : n0 ≤ 10) (h4 : xFI h 403 0 = nI n0) (h1 : xFI A 1000 0 = nI n0) {a b ti : Int32} (p : ¬ okW h a b ti) : (eW h a b = cy_e1 ∧ (F_X9_asksWay1 A a b ti).2 = sFI (sFI A 1043 0 0) 1043 0 2) ∨ (eW h a b = cy_e3 ∧ (F_X9_asksWay1 A a b ti).2 = sFI A 1043 0 1) := by
  unfold F_X9_asksWay1 eW
  rw [h1]
  by_cases pa : okS h a
  · have ka := (okM_iff (n0 := n0) (by omega)).mpr ((okS_iff h4 hn).mp pa)
    rw [if_pos ka]
    by_cases pb : okS h b
    · have kb := (okM_iff (n0 := n0) (by omega)).mpr ((okS_iff h4 hn).mp pb)
      rw [if_pos kb, if_pos ⟨pa, pb⟩]
      refine .inl ⟨rfl, ?_⟩
      by_cases c : a = b
      · rw [if_pos c]
      · rw [if_neg c, if_neg (fun q => p ⟨⟨pa, pb⟩, c, q⟩)]
    · rw [if_neg (fun q => pb ((okS_iff h4 hn).mpr ((okM_iff (n0 := n0) (by omega)).mp q))), if_neg (fun q => pb q.2)]
      exact .inr ⟨rfl, rfl⟩
  · rw [if_neg (fun q => pa ((okS_iff h4 hn).mpr ((okM_iff (n0 := n0) (by omega)).mp q))), if_neg (fun q => pa q.1)]
    exact .inr ⟨rfl, rfl⟩
theorem aw0_eq {h A : Hp} {n0 : Nat} (hn : n0 ≤ 10) (h4 : xFI h 403 0 = nI n0) (h1 : xFI A 1000 0 = nI n0) (a b ti : Int32) : (eW h a b = cy_e1 ∧ (F_X9_asksWay0 A a b ti).2 = sFI (sFI A 1043 0 0) 1043 0 2) ∨ (eW h a b = cy_e3 ∧ (F_X9_asksWay0 A a b ti).2 = sFI A 1043 0 1) := by
  unfold F_X9_asksWay0 eW
  rw [h1]
  by_cases pa : okS h a
  · have ka := (okM_iff (n0 := n0) (by omega)).mpr ((okS_iff h4 hn).mp pa)
    rw [if_pos ka]
    by_cases pb : okS h b
    · have kb := (okM_iff (n0 := n0) (by omega)).mpr ((okS_iff h4 hn).mp pb)
      rw [if_pos kb, if_pos ⟨pa, pb⟩]
      refine .inl ⟨rfl, ?_⟩
      by_cases c : a = b
      · rw [if_pos c]
      · rw [if_neg c]
        split <;> rfl
    · rw [if_neg (fun q => pb ((okS_iff h4 hn).mpr ((okM_iff (n0 := n0) (by omega)).mp q))), if_neg (fun q => pb q.2)]
      exact .inr ⟨rfl, rfl⟩
  · rw [if_neg (fun q => pa ((okS_iff h4 hn).mpr ((okM_iff (n0 := n0) (by omega)).mp q))), if_neg (fun q => pa q.1)]
    exact .inr ⟨rfl, rfl⟩
theorem ag_way {S : Nat → Int32} {N : Nat} {h mh : Hp} (I : Inv S N h) {l : List String} (l3 : cdR l (.inr cy_e3) = 1) (l1 : cdR l (.inr cy_e1) = 2) {a b : Int32} {V : Prop} (q : (eW h a b = cy_e1 ∧ mh = sFI (sFI h 1043 0 0) 1043 0 2) ∨ (eW h a b = cy_e3 ∧ mh = sFI h 1043 0 1)) : AG S N l (.inr (eW h a b)) h mh V := by
  rcases q with ⟨e, rfl⟩ | ⟨e, rfl⟩
  · rw [e]
    exact ag_err I (k := 2) fqe2 rfl l1 (by decide)
  · rw [e]
    exact ag_err I (k := 1) fqe1 rfl l3 (by decide)
theorem ag_way1 {S : Nat → Int32} {N : Nat} {h mh : Hp} (I : Inv S N h) {l : List String} (l3 : cdR l (.inr cy_e3) = 1) (l1 : cdR l (.inr cy_e1) = 2) {a b : Int32} {V : Prop} (ee : eW h a b = cy_e1) (q : (eW h a b = cy_e1 ∧ mh = sFI (sFI h 1043 0 0) 1043 0 2) ∨ (eW h a b = cy_e3 ∧ mh = sFI h 1043 0 1)) : AG S N l (.inr cy_e1) h mh V := by
  have g := ag_way (V := V) I l3 l1 q
  rw [ee] at g
  exact g
theorem okW_of {h : Hp} {n0 : Nat} (hn : n0 ≤ 10) (h4 : xFI h 403 0 = nI n0) {a b ti : Int32} (p : okW h a b ti) : ∃ i j t, i < n0 ∧ j < n0 ∧ i ≠ j ∧ t ≤ 140000 ∧ a = nI i ∧ b = nI j ∧ ti = nI t := by
  obtain ⟨⟨pa, pb⟩, pe, pt⟩ := p
  obtain ⟨i, hi, rfl⟩ := (okS_iff h4 hn).mp pa
  obtain ⟨j, hj, rfl⟩ := (okS_iff h4 hn).mp pb
  obtain ⟨t, rfl, -, ht⟩ := okR_of (a := 0) (n := 140000) (by decide) (by decide) pt
  exact ⟨i, j, t, hi, hj, fun q => pe (by rw [q]), ht, rfl, rfl, rfl⟩
/-- both searches, the reference's behind the class's -/
theorem searches {S : Nat → Int32} {N : Nat} {h : Hp} (I : Inv S N h) {n0 a b ti nn : Nat} (hs0 : RStop h n0) (w : World h n0) (ha : a < n0) (hti : ti ≤ 140000) (hnn : nn ≤ 4) (v : Int64) :
    SearchC h (F_X5_seek h (nI a) (nI b) (nI ti) (nI nn)) n0 nn a b ti ∧ FQ h (F_X5_seek h (nI a) (nI b) (nI ti) (nI nn)) ∧ DM (F_X5_seek h (nI a) (nI b) (nI ti) (nI nn)) ∧
    SearchM h (F_X9_reaches (sFI (sFI (sAL (F_X5_seek h (nI a) (nI b) (nI ti) (nI nn)) v) 1043 0 0) 1043 0 0) (nI a) (nI ti) (nI nn)) n0 nn a ti ∧
    FQ (sAL (F_X5_seek h (nI a) (nI b) (nI ti) (nI nn)) v) (F_X9_reaches (sFI (sFI (sAL (F_X5_seek h (nI a) (nI b) (nI ti) (nI nn)) v) 1043 0 0) 1043 0 0) (nI a) (nI ti) (nI nn)) ∧
    xFI (F_X9_reaches (sFI (sFI (sAL (F_X5_seek h (nI a) (nI b) (nI ti) (nI nn)) v) 1043 0 0) 1043 0 0) (nI a) (nI ti) (nI nn)) 1043 0 = 0 ∧
    xAL (F_X9_reaches (sFI (sFI (sAL (F_X5_seek h (nI a) (nI b) (nI ti) (nI nn)) v) 1043 0 0) 1043 0 0) (nI a) (nI ti) (nI nn)) 0 = v := by
  have sc := seek_spec w (small_of I.R hs0) (b := b) ha hti hnn
  generalize F_X5_seek h (nI a) (nI b) (nI ti) (nI nn) = HC at sc
  have fq : FQ h HC := sc.1.fq (by decide) (by decide)
  have m1 : MA h (sFI (sFI (sAL HC v) 1043 0 0) 1043 0 0) := ((MA.fq fq).al (v := v)).fx (fs := [1043]) (ss := []) ((FX.sfi (by decide)).trans (FX.sfi (by decide))) (by decide) (by decide)
  obtain ⟨sm, fx⟩ := reaches_spec (nn := nn) I.W I.R hs0 w m1 ha hti hnn
  refine ⟨sc, fq, I.D.fx sc.1 (by decide) (by decide), sm, fqe2.trans (fx.fq (by decide) (by decide)), (fx.2.1 1043 (by decide) 0).trans rfl, (al_sr fx.1).trans rfl⟩
theorem ag_arrival {S : Nat → Int32} {N : Nat} {h : Hp} (I : Inv S N h) (a b ti n : Int32) : AG S N [cy_e3, cy_e1] (F_X8_arrival h a b ti n).1 (A1_arrival h a b ti n) (F_X9_arrival (A1_arrival h a b ti n) a b ti n).2 (xAL (F_X9_arrival (A1_arrival h a b ti n) a b ti n).2 0 = (F_X9_arrival (A1_arrival h a b ti n) a b ti n).1.toInt64) := by
  obtain ⟨n0, hs0, w⟩ := world_of I.W I.R
  have h10 := hs0.1
  by_cases p : okW h a b ti
  · by_cases pn : okR n 1 4
    · obtain ⟨i, j, t, hi, hj, hij, ht, rfl, rfl, rfl⟩ := okW_of h10 hs0.2.1 p
      obtain ⟨k, rfl, hk1, hk4⟩ := okR_of (a := 1) (n := 4) (by decide) (by decide) pn
      have e8 : F_X8_arrival h (nI i) (nI j) (nI t) (nI k) = (.inl (some (.inl (.int (F_X8_timeOrNone (F_X5_end (F_X5_seek h (nI i) (nI j) (nI t) (nI k)) (nI k)))))), F_X5_seek h (nI i) (nI j) (nI t) (nI k)) := by
        unfold F_X8_arrival
        rw [if_pos p, if_pos pn]
      obtain ⟨sc, fq, D, sm, fqm, e43, eal⟩ := searches I hs0 w hi ht hk4 (b := j) (F_X8_timeOrNone (F_X5_end (F_X5_seek h (nI i) (nI j) (nI t) (nI k)) (nI k))).toInt64
      have eA : A1_arrival h (nI i) (nI j) (nI t) (nI k) = sAL (F_X5_seek h (nI i) (nI j) (nI t) (nI k)) (F_X8_timeOrNone (F_X5_end (F_X5_seek h (nI i) (nI j) (nI t) (nI k)) (nI k))).toInt64 := by unfold A1_arrival; rw [e8]; rfl
      obtain ⟨rl, -⟩ := meet_end I.R hs0 w hi hj ht hk4 sc sm (Nat.le_refl k) (by omega)
      rw [eA, e8]
      have p2 : okWM (sAL (F_X5_seek h (nI i) (nI j) (nI t) (nI k)) (F_X8_timeOrNone (F_X5_end (F_X5_seek h (nI i) (nI j) (nI t) (nI k)) (nI k))).toInt64) (nI i) (nI j) (nI t) := (okWM_iff h10 hs0.2.1 ((fq.2.1 1000 (by decide) 0).trans hs0.2.2.1)).mpr p
      unfold F_X9_arrival
      rw [if_pos pn, if_pos p2]
      generalize F_X5_seek h (nI i) (nI j) (nI t) (nI k) = HC at sc fq D sm fqm e43 eal rl
      generalize F_X5_end HC (nI k) = e at sm fqm e43 eal rl
      generalize F_X9_reaches (sFI (sFI (sAL HC (F_X8_timeOrNone e).toInt64) 1043 0 0) 1043 0 0) (nI i) (nI t) (nI k) = HM at sm fqm e43 eal rl
      have ev : ∀ {α : Type} (x y z : α), (if F_X9_timeBy HM (nI j) (nI k) = 100000000 then ((-1 : Int32), HM) else (F_X9_timeBy HM (nI j) (nI k), HM)) = (F_X8_timeOrNone e, HM) := by
        intro _ _ _ _
        unfold F_X8_timeOrNone
        have rn := rl.none
        by_cases c : (1000000000 : Int32) ≤ e
        · have c2 := c
          rw [Int32.le_iff_toInt_le, N9] at c2
          rw [if_pos c, if_pos (Int32.toInt_inj.mp ((rn.mp c2).trans N8.symm))]
        · have c2 := c
          rw [Int32.le_iff_toInt_le, N9] at c2
          have c3 : F_X9_timeBy HM (nI j) (nI k) = e := Int32.toInt_inj.mp (rl.some (by omega))
          rw [if_neg c, if_neg (fun q => c2 (rn.mpr (by rw [q]; exact N8))), c3]
      rw [ev () () ()]
      exact ag_ans I fq D fqm e43 eal
    · have e8 : F_X8_arrival h a b ti n = (.inr cy_e1, h) := by unfold F_X8_arrival; rw [if_pos p, if_neg pn]
      have eA : A1_arrival h a b ti n = h := by unfold A1_arrival; rw [e8]; rfl
      have ee : eW h a b = cy_e1 := by unfold eW; rw [if_pos p.1]
      rw [eA, e8]
      unfold F_X9_arrival
      rw [if_neg pn]
      exact ag_way1 I (by decide +kernel) (by decide +kernel) ee (aw0_eq h10 hs0.2.1 hs0.2.2.1 a b ti)
  · have e8 : F_X8_arrival h a b ti n = (.inr (eW h a b), h) := by unfold F_X8_arrival; rw [if_neg p]
    have eA : A1_arrival h a b ti n = h := by unfold A1_arrival; rw [e8]; rfl
    rw [eA, e8]
    unfold F_X9_arrival
    by_cases pn : okR n 1 4
    · rw [if_pos pn, if_neg (fun q => p ((okWM_iff h10 hs0.2.1 hs0.2.2.1).mp q))]
      exact ag_way I (by decide +kernel) (by decide +kernel) (aw1_eq h10 hs0.2.1 hs0.2.2.1 p)
    · rw [if_neg pn]
      exact ag_way I (by decide +kernel) (by decide +kernel) (aw0_eq h10 hs0.2.1 hs0.2.2.1 a b ti)
