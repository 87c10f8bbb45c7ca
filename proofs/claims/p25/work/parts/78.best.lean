/-! ===== own: the way is the only one; the best score is at most any other ===== -/
theorem LSt.uniq {h : Hp} {n0 b : Nat} {E : Nat → Int} {e : Int} {s s' : Nat} (q : LSt h n0 E b e s) (q' : LSt h n0 E b e s') : s = s' := by
  obtain ⟨a1, a2, a3⟩ := q
  obtain ⟨b1, b2, b3⟩ := q'
  rcases a3 with e1 | ⟨e1, e2⟩ <;> rcases b3 with f1 | ⟨f1, f2⟩
  · omega
  · rw [e1] at a2; exact absurd a2 f1
  · rw [f1] at b2; exact absurd b2 e1
  · rcases Nat.lt_trichotomy s s' with c | c | c
    · exact absurd a2 (f2 s c)
    · exact c
    · exact absurd b2 (e2 s' c)
theorem AH.uniq {h : Hp} {n0 b : Nat} {E : Nat → Int} {dep : Int} {s s' : Nat} (q : AH h n0 E b dep s) (q' : AH h n0 E b dep s') : s = s' := by
  obtain ⟨a1, a2, a3⟩ := q
  obtain ⟨b1, b2, b3⟩ := q'
  rcases a3 with e1 | ⟨e1, e2⟩ <;> rcases b3 with f1 | ⟨f1, f2⟩
  · omega
  · rw [e1] at a2; exact absurd a2 f1
  · rw [f1] at b2; exact absurd b2 e1
  · rcases Nat.lt_trichotomy s s' with c | c | c
    · exact absurd a2 (f2 s c)
    · exact c
    · exact absurd b2 (e2 s' c)
theorem FR.uniq {h : Hp} {n0 fd ld s t d i j t' d' i' j' : Nat} {R E : Nat → Int} (w : World h n0) (hld : ld < 100) (q : FR h R E fd ld s t d i j) (q' : FR h R E fd ld s t' d' i' j') : t = t' ∧ d = d' ∧ i = i' ∧ j = j' := by
  obtain ⟨a1, a2, a3, a4, a5, a6, a7⟩ := q
  obtain ⟨b1, b2, b3, b4, b5, b6, b7⟩ := q'
  have et : t = t' := by
    rcases Nat.lt_trichotomy t t' with c | c | c
    · exact absurd a4 (b7 t c d a2 a3 i j)
    · exact c
    · exact absurd b4 (a7 t' c d' b2 b3 i' j')
  subst et
  have ed : d = d' := by
    rcases Nat.lt_trichotomy d d' with c | c | c
    · exact absurd a4 (b6 d a2 c i j)
    · exact c
    · exact absurd b4 (a6 d' b2 c i' j')
  subst ed
  have ei : i = i' := by
    rcases Nat.lt_trichotomy i i' with c | c | c
    · exact absurd a4 (b5 i c j)
    · exact c
    · exact absurd b4 (a5 i' c j')
  subst ei
  exact ⟨rfl, rfl, rfl, (IsR.j w a1 (by omega) a4 b4).symm⟩
theorem Way.uniq {h : Hp} {n0 fd ld b n : Nat} {e : Int} {R E : Nat → Nat → Int} {at' t d i j at1 t1 d1 i1 j1 : Nat → Nat} (w : World h n0) (hld : ld < 100) (q : Way h n0 R E fd ld b n e at' t d i j) (q' : Way h n0 R E fd ld b n e at1 t1 d1 i1 j1) : ∀ x, x < n → t x = t1 x ∧ d x = d1 x ∧ i x = i1 x ∧ j x = j1 x := by
  obtain ⟨l, f⟩ := q
  obtain ⟨l', f'⟩ := q'
  have key : ∀ m x, x + m = n → at' x = at1 x ∨ x = 0 := by
    intro m
    induction m with
    | zero =>
      intro x hx
      obtain rfl : x = n := by omega
      exact .inl (l.uniq l')
    | succ m ih =>
      intro x hx
      by_cases x0 : x = 0
      · exact .inr x0
      · left
        rcases ih (x + 1) (by omega) with e1 | e1
        · obtain ⟨g1, g2⟩ := f x (by omega)
          obtain ⟨g3, g4⟩ := f' x (by omega)
          rw [← e1] at g3
          obtain ⟨u1, u2, u3, u4⟩ := g1.uniq w hld g3
          have g4 := g4 x0
          rw [← u1, ← u2, ← u3] at g4
          exact (g2 x0).uniq g4
        · omega
  intro x hx
  obtain ⟨g1, -⟩ := f x hx
  obtain ⟨g3, -⟩ := f' x hx
  rcases key (n - (x + 1)) (x + 1) (by omega) with e1 | e1
  · rw [← e1] at g3
    exact g1.uniq w hld g3
  · omega
theorem OKE.cg {h : Hp} {E E' : Nat → Int} {b s : Nat} {e : Int} (r : E' s = E s) : OKE h E' b e s ↔ OKE h E b e s := by unfold OKE; rw [r]
theorem OKA.cg {h : Hp} {E E' : Nat → Int} {b s : Nat} {e : Int} (r : E' s = E s) : OKA h E' b e s ↔ OKA h E b e s := by unfold OKA; rw [r]
theorem LSt.cg {h : Hp} {n0 b : Nat} {E E' : Nat → Int} {e : Int} {s : Nat} (hb : b < n0) (r : ∀ s, s < n0 → E' s = E s) (q : LSt h n0 E b e s) : LSt h n0 E' b e s := by
  obtain ⟨a1, a2, a3⟩ := q
  exact ⟨a1, (OKE.cg (r s a1)).mpr a2, a3.imp id (fun z => ⟨fun y => z.1 ((OKE.cg (r b hb)).mp y), fun x hx y => z.2 x hx ((OKE.cg (r x (by omega))).mp y)⟩)⟩
theorem AH.cg {h : Hp} {n0 b : Nat} {E E' : Nat → Int} {e : Int} {s : Nat} (hb : b < n0) (r : ∀ s, s < n0 → E' s = E s) (q : AH h n0 E b e s) : AH h n0 E' b e s := by
  obtain ⟨a1, a2, a3⟩ := q
  exact ⟨a1, (OKA.cg (r s a1)).mpr a2, a3.imp id (fun z => ⟨fun y => z.1 ((OKA.cg (r b hb)).mp y), fun x hx y => z.2 x hx ((OKA.cg (r x (by omega))).mp y)⟩)⟩
theorem IsR.cg {h : Hp} {n0 s t d i j : Nat} {R R' E E' : Nat → Int} (w : World h n0) (ht : t < xLS h 11) (hs : s < n0) (r : ∀ s, s < n0 → R' s = R s) (e : ∀ s, s < n0 → E' s = E s) : IsR h R' E' s t d i j ↔ IsR h R E s t d i j := by
  unfold IsR
  rw [e s hs]
  constructor
  · rintro ⟨a1, a2, a3, a4, a5, a6⟩
    have hi := ((w.2.2.2 t ht).2.2.2.1 i (by omega)).2
    exact ⟨a1, a2, a3, a4, a5, by rw [← r _ hi]; exact a6⟩
  · rintro ⟨a1, a2, a3, a4, a5, a6⟩
    have hi := ((w.2.2.2 t ht).2.2.2.1 i (by omega)).2
    exact ⟨a1, a2, a3, a4, a5, by rw [r _ hi]; exact a6⟩
theorem FR.cg {h : Hp} {n0 fd ld s t d i j : Nat} {R R' E E' : Nat → Int} (w : World h n0) (hs : s < n0) (r : ∀ s, s < n0 → R' s = R s) (e : ∀ s, s < n0 → E' s = E s) (q : FR h R E fd ld s t d i j) : FR h R' E' fd ld s t d i j := by
  obtain ⟨a1, a2, a3, a4, a5, a6, a7⟩ := q
  exact ⟨a1, a2, a3, (IsR.cg w a1 hs r e).mpr a4, fun i' hi j' y => a5 i' hi j' ((IsR.cg w a1 hs r e).mp y), fun d' h1 h2 i' j' y => a6 d' h1 h2 i' j' ((IsR.cg w a1 hs r e).mp y), fun t' ht d' h1 h2 i' j' y => a7 t' ht d' h1 h2 i' j' ((IsR.cg w (by omega) hs r e).mp y)⟩
theorem Way.cg {h : Hp} {n0 fd ld b n : Nat} {e : Int} {R E R' E' : Nat → Nat → Int} {at' t d i j : Nat → Nat} (w : World h n0) (hb : b < n0) (hn : n ≠ 0) (r : ∀ k, k ≤ n → ∀ s, s < n0 → R' k s = R k s ∧ (k ≠ 0 → E' k s = E k s)) (q : Way h n0 R E fd ld b n e at' t d i j) : Way h n0 R' E' fd ld b n e at' t d i j := by
  obtain ⟨l, f⟩ := q
  refine ⟨l.cg hb (fun s hs => (r n (Nat.le_refl _) s hs).2 hn), fun m hm => ?_⟩
  obtain ⟨g1, g2⟩ := f m hm
  have hs : at' (m + 1) < n0 := by
    by_cases c : m + 1 = n
    · rw [c]; exact l.1
    · exact ((f (m + 1) (by omega)).2 (by omega)).1
  refine ⟨g1.cg w hs (fun s hs => (r m (by omega) s hs).1) (fun s hs => (r (m + 1) (by omega) s hs).2 (by omega)), fun m0 => ?_⟩
  obtain ⟨c1, c2, c3, ⟨c4, c5, c6, -⟩, -⟩ := g1
  exact (g2 m0).cg ((w.2.2.2 (t m) c1).2.2.2.1 (i m) (by omega)).2 (fun s hs => (r m (by omega) s hs).2 m0)
theorem TQ.symm {h X : Hp} (q : TQ h X) : TQ X h := ⟨fun s i j => (q.1 s i j).symm, fun f a b i => (q.2.1 f a b i).symm, fun f a b i => (q.2.2.1 f a b i).symm, q.2.2.2.symm⟩
theorem FX.symm {fs ss : List Nat} {h h' : Hp} (x : FX fs ss h h') : FX fs ss h' h := ⟨⟨x.1.1.symm, x.1.2.symm⟩, fun f hf i => (x.2.1 f hf i).symm, fun s hs i j => (x.2.2 s hs i j).symm⟩
theorem Way.fx {fs : List Nat} {h X : Hp} {n0 fd ld b n : Nat} {e : Int} {R E : Nat → Nat → Int} {at' t d i j : Nat → Nat} (w : World h n0) (q : FX fs ss2 h X) (hf : 403 ∉ fs ∧ 810 ∉ fs) (y : Way h n0 R E fd ld b n e at' t d i j) : Way X n0 R E fd ld b n e at' t d i j := by
  obtain ⟨-, e1, e2, e3, e4, e5⟩ := w.fx q hf
  obtain ⟨l, f⟩ := y
  have et : ∀ s, toB X b s = toB h b s := fun s => by unfold toB; rw [q.2.2 23 (by decide)]
  refine ⟨?_, fun m hm => ?_⟩
  · unfold LSt OKE at l ⊢
    simp only [et]
    exact l
  · obtain ⟨g1, g2⟩ := f m hm
    refine ⟨g1.fx w q hf, fun m0 => ?_⟩
    rw [e1, e3]
    exact (g2 m0).fx q
/-- carbon and score of a way, by its rides' modes -/
def cbW (md : Nat → Int32) (i j : Nat → Nat) : Nat → Nat → UInt64 → UInt64
  | 0, _, c => c
  | m + 1, x, c => cbW md i j m (x + 1) (FP.dadd c (FP.dmul (FP.i2d (md x)) (FP.i2d (nI (j x) - nI (i x)))))
def scW (md : Nat → Int32) (n ti : Nat) (e : Int32) (i j : Nat → Nat) : UInt64 := FP.dadd (FP.dadd (FP.i2d (e - nI ti)) (FP.dmul 4624633867356078080 (FP.i2d (nI n)))) (FP.ddiv (cbW md i j n 0 FP.dconst0) 4621819117588971520)
theorem cbW_cg {md md' : Nat → Int32} {i j i' j' : Nat → Nat} : ∀ (m x : Nat) (c : UInt64), (∀ y, x ≤ y → y < x + m → md y = md' y ∧ i y = i' y ∧ j y = j' y) → cbW md i j m x c = cbW md' i' j' m x c := by
  intro m
  induction m with
  | zero => intro x c _; rfl
  | succ m ih =>
    intro x c hy
    obtain ⟨h1, h2, h3⟩ := hy x (Nat.le_refl _) (by omega)
    show cbW md i j m (x + 1) _ = cbW md' i' j' m (x + 1) _
    rw [h1, h2, h3]
    exact ih (x + 1) _ (fun y a b => hy y (by omega) (by omega))
theorem score_told {h HC T : Hp} {n a b ti : Nat} {e : Int32} {at' t d i j : Nat → Nat} (q : ToldC h HC T n a b ti e at' t d i j) : F_X2_score T (xCN HC 3) (rls T (xCN HC 3)) = scW (fun x => F_at T 15 0 (xFI T 801 (t x))) n ti e i j ∧ (n ≤ 4 → NN (F_X2_score T (xCN HC 3) (rls T (xCN HC 3)))) := by
  obtain ⟨u1, u2, u3, u4, u5, u6, u7, u8, u9⟩ := q
  constructor
  · have key : ∀ (m x : Nat) (c : UInt64) (R0 : List Nat), x + m = n → L_X2_carbon_7 T (xCN HC 3) R0 ((List.range' x m).map (rid (xCN HC 5) n)) c = cbW (fun x => F_at T 15 0 (xFI T 801 (t x))) i j m x c := by
      intro m
      induction m with
      | zero => intro x c R0 _; rfl
      | succ m ih =>
        intro x c R0 hx
        obtain ⟨g1, g2, g3, g4, -⟩ := u9 x (by omega)
        have et : tr T (rid (xCN HC 5) n x) = t x := by unfold tr; rw [g1]; rfl
        rw [List.range'_succ, List.map_cons, L_X2_carbon_7_s]
        unfold B_X2_carbon_7 F_X4_length
        rw [et, g3, g4, ih (x + 1) _ R0 (by omega)]
        rfl
    unfold F_X2_score F_X2_carbon scW
    rw [u7, u4, u5, u8, key n 0 _ _ (by omega)]
  · intro hn
    have hR : (rls T (xCN HC 3)).length ≤ 5 := rls_len _ _
    unfold F_X2_score
    have m1 : MG 900 (FP.dadd (FP.i2d ((xFI T 304 (xCN HC 3)) - (xFI T 300 (xCN HC 3)))) (FP.dmul 4624633867356078080 (FP.i2d (xFI T 302 (xCN HC 3))))) := mg_mono (mg_add (mg_mono (mg_i2d _) (by decide : 31 ≤ 62)) (mg_mul (mg_mono (by rw [cy_fifteen]; exact mg_i2d _) (by decide : 31 ≤ 31)) (mg_i2d _) (by decide)).2 (by decide)).2 (by decide : 63 ≤ 900)
    have m2 : MG 900 (FP.ddiv (F_X2_carbon T (xCN HC 3) (rls T (xCN HC 3))) 4621819117588971520) := by rw [cy_ten]; exact (mg_div (mg_carbon hR) (by decide) (by decide)).2
    exact mg_nn (mg_add m1 m2 (by decide)).2
/-- the score of the journey by k rides -/
def SC (h : Hp) (a b ti k : Nat) : UInt64 := V_journey h (nI a) (nI b) (nI ti) (nI k) 2
theorem md_eq {fs : List Nat} {h HC T : Hp} (fx : FX fs ss2 h HC) (hf : 801 ∉ fs) (tq : TQ HC T) (y : Nat) : F_at T 15 0 (xFI T 801 y) = F_at h 15 0 (xFI h 801 y) := by
  rw [tq.at, tq.2.1 801 (by decide) (by decide), at_fx fx (by decide), fx.2.1 801 hf]
theorem v_score {h : Hp} {n0 a b ti n : Nat} {T : Hp} {at' t d i j : Nat → Nat} (q : WA h n0 a b ti) (h1 : 1 ≤ n) (h4 : n ≤ 4) (J : Jn h n0 a b ti n T at' t d i j) : SC h a b ti n = scW (fun x => F_at h 15 0 (xFI h 801 (t x))) n ti (EE h a b ti n) i j ∧ NN (SC h a b ti n) := by
  have ncl : (nI n).toNatClampNeg = n := nI_clamp (by omega)
  have fx := (q.sc (n := n) h4).1
  have tq := J.tq
  have e : SC h a b ti n = F_X2_score T (xCN (F_X5_seek h (nI a) (nI b) (nI ti) (nI n)) 3) (rls T (xCN (F_X5_seek h (nI a) (nI b) (nI ti) (nI n)) 3)) := by
    unfold SC V_journey F_X8_journey
    rw [if_pos q.ok, if_pos (okn_mk h1 h4), if_pos (show okR (2 : Int32) 0 3 by decide), ncl, J.1]
    dsimp only
    rw [if_neg (fun z => nomatch z), if_neg (by decide), if_neg (by decide), if_pos rfl]
    rfl
  obtain ⟨s1, s2⟩ := score_told J.2.1
  rw [e]
  refine ⟨?_, s2 h4⟩
  rw [s1]
  congr 1
  funext x
  exact md_eq fx (by decide) tq (t x)
/-- the score by k rides, sought with others -/
theorem score_eq {h K H T : Hp} {n0 a b ti k : Nat} {at' t d i j : Nat → Nat} (q : WA h n0 a b ti) (h1 : 1 ≤ k) (h4 : k ≤ 4) (cK : SearchC h K n0 4 a b ti) (tq : TQ K H) (q2 : ToldC H H T k a b ti (EE h a b ti k) at' t d i j) (wy : Way H n0 (Rc H) (Ec H) (ti / 1440 - 1) (ti / 1440 + 1) b k (EE h a b ti k).toInt at' t d i j) (he : EE h a b ti k < 1000000000) : F_X2_score T (xCN H 3) (rls T (xCN H 3)) = SC h a b ti k := by
  have hti := q.2.2.2.2.2.2
  obtain ⟨-, T1, at1, t1, d1, i1, j1, J⟩ := v_some q h1 h4 he
  obtain ⟨s1, -⟩ := v_score q h1 h4 J
  obtain ⟨wK, -⟩ := q.2.1.fx cK.1 (by decide)
  have eR : (fun k => Rc H k) = fun k => Rc K k := funext fun k => tq.eRc k
  have eE : (fun k => Ec H k) = fun k => Ec K k := funext fun k => tq.eEc k
  have w1 : Way K n0 (Rc K) (Ec K) (ti / 1440 - 1) (ti / 1440 + 1) b k (EE h a b ti k).toInt at' t d i j := by
    have := tq.symm.way wy
    rw [show Rc H = Rc K from eR, show Ec H = Ec K from eE] at this
    exact this
  have w2 : Way h n0 (Rc K) (Ec K) (ti / 1440 - 1) (ti / 1440 + 1) b k (EE h a b ti k).toInt at' t d i j := Way.fx wK cK.1.symm (by decide) w1
  have cJ := q.sc (n := k) h4
  have w3 : Way h n0 (Rc K) (Ec K) (ti / 1440 - 1) (ti / 1440 + 1) b k (EE h a b ti k).toInt at1 t1 d1 i1 j1 := J.2.2.cg q.2.1 q.2.2.2.2.1 (by omega) (fun x hx s hs => search_uniq q.2.1 q.2.2.1 q.2.2.2.1 hti cJ cK hx (by omega) hs)
  have u := w2.uniq q.2.1 (by omega) w3
  rw [(score_told q2).1, s1]
  unfold scW
  rw [cbW_cg (md' := fun x => F_at h 15 0 (xFI h 801 (t1 x))) (i' := i1) (j' := j1) k 0 FP.dconst0 (fun y _ hy => ?_)]
  obtain ⟨v1, v2, v3, v4⟩ := u y (by omega)
  have tqT : TQ K T := tq.trans q2.1
  exact ⟨by rw [md_eq cK.1 (by decide) tqT, v1], v3, v4⟩
theorem best_loop {h K : Hp} {n0 a b ti : Nat} (q : WA h n0 a b ti) (cK : SearchC h K n0 4 a b ti) (ee : ∀ k, 1 ≤ k → k ≤ 4 → F_X5_end K (nI k) = EE h a b ti k) : ∀ (mm k fu : Nat) (H : Hp) (ch : Int32) (le : UInt64), k + mm = 5 → 1 ≤ k → mm < fu → SearchC H H n0 4 a b ti → TQ K H →
    ((ch = -1 ∧ ∀ x, 1 ≤ x → x < k → ¬ EE h a b ti x < 1000000000) ∨ ∃ c, 1 ≤ c ∧ c < k ∧ ch = nI c ∧ EE h a b ti c < 1000000000 ∧ le = SC h a b ti c ∧ ∀ x, 1 ≤ x → x < k → EE h a b ti x < 1000000000 → ZV (SC h a b ti c) ≤ ZV (SC h a b ti x)) →
    ∃ v, (L_X8_best_27 h (nI a) (nI b) (nI ti) fu H ch le k).1 = .inl (some (.inl (.int v))) ∧ ((v = -1 ∧ ∀ x, 1 ≤ x → x < 5 → ¬ EE h a b ti x < 1000000000) ∨ ∃ c, 1 ≤ c ∧ c < 5 ∧ v = nI c ∧ EE h a b ti c < 1000000000 ∧ ∀ x, 1 ≤ x → x < 5 → EE h a b ti x < 1000000000 → ZV (SC h a b ti c) ≤ ZV (SC h a b ti x)) := by
  have hti := q.2.2.2.2.2.2
  have nn : ∀ x, 1 ≤ x → x ≤ 4 → EE h a b ti x < 1000000000 → NN (SC h a b ti x) := fun x h1 h4 he => by
    obtain ⟨-, T1, at1, t1, d1, i1, j1, J⟩ := v_some q h1 h4 he
    exact (v_score q h1 h4 J).2
  intro mm
  induction mm with
  | zero =>
    intro k fu H ch le hk h1 hf c tq inv
    obtain ⟨fu, rfl⟩ : ∃ g, fu = g + 1 := ⟨fu - 1, by omega⟩
    obtain rfl : k = 5 := by omega
    rw [L_X8_best_27_s]
    unfold B_X8_best_27
    rw [if_pos (show (4 : Int32) < nI 5 by decide)]
    refine ⟨ch, rfl, inv.imp id ?_⟩
    rintro ⟨x, x1, x2, x3, x4, x5, x6⟩
    exact ⟨x, x1, x2, x3, x4, x6⟩
  | succ mm ih =>
    intro k fu H ch le hk h1 hf c tq inv
    obtain ⟨fu, rfl⟩ : ∃ g, fu = g + 1 := ⟨fu - 1, by omega⟩
    obtain ⟨wK, -⟩ := q.2.1.fx cK.1 (by decide)
    have smK : Small K n0 := fun x y hx hy => by rw [chI_fx cK.1]; exact q.2.2.1 x y hx hy
    have wH := tq.world wK
    have smH := tq.small smK
    have eH : F_X5_end H (nI k) = EE h a b ti k := (tq.eend _).trans (ee k h1 (by omega))
    rw [L_X8_best_27_s]
    unfold B_X8_best_27
    rw [if_neg (fun z => by have := (nI_ltI (a := 4) (by decide) (by omega)).mp z; omega)]
    rcases tells wH smH q.2.2.2.1 q.2.2.2.2.1 hti (Nat.le_refl 4) c (show k ≠ 0 by omega) (by omega) with ⟨e1, e2⟩ | ⟨e1, T, at', t, d, i, j, e2, e3, e4⟩
    · rw [e2, if_pos rfl]
      rw [eH] at e1
      refine ih (k + 1) fu H ch le (by omega) (by omega) (by omega) c tq (inv.imp (fun z => ⟨z.1, fun x x1 x2 => ?_⟩) ?_)
      · by_cases cx : x = k
        · rw [cx]; exact e1
        · exact z.2 x x1 (by omega)
      · rintro ⟨y, y1, y2, y3, y4, y5, y6⟩
        refine ⟨y, y1, by omega, y3, y4, y5, fun x x1 x2 x3 => ?_⟩
        by_cases cx : x = k
        · rw [cx] at x3; exact absurd x3 e1
        · exact y6 x x1 (by omega) x3
    · rw [e2]
      dsimp only
      rw [if_neg (fun z => nomatch z)]
      rw [eH] at e1 e3 e4
      have es := score_eq q h1 (by omega) cK tq e3 e4 e1
      rw [es]
      have cT := c.tq e3.1
      have tT := tq.trans e3.1
      have hnew : ((nI k = -1 ∧ ∀ x, 1 ≤ x → x < k + 1 → ¬ EE h a b ti x < 1000000000) ∨ ∃ c, 1 ≤ c ∧ c < k + 1 ∧ nI k = nI c ∧ EE h a b ti c < 1000000000 ∧ SC h a b ti k = SC h a b ti c ∧ ∀ x, 1 ≤ x → x < k + 1 → EE h a b ti x < 1000000000 → ZV (SC h a b ti c) ≤ ZV (SC h a b ti x)) ↔ ∀ x, 1 ≤ x → x < k → EE h a b ti x < 1000000000 → ZV (SC h a b ti k) ≤ ZV (SC h a b ti x) := by
        constructor
        · rintro (⟨z, -⟩ | ⟨y, y1, y2, y3, y4, y5, y6⟩)
          · exact absurd z (nI_m1ne (by omega))
          · intro x x1 x2 x3
            rw [y5]
            exact y6 x x1 (by omega) x3
        · intro z
          refine .inr ⟨k, h1, by omega, rfl, e1, rfl, fun x x1 x2 x3 => ?_⟩
          by_cases cx : x = k
          · rw [cx]; exact Int.le_refl _
          · exact z x x1 (by omega) x3
      rcases inv with ⟨z1, z2⟩ | ⟨y, y1, y2, y3, y4, y5, y6⟩
      · rw [if_pos z1]
        exact ih (k + 1) fu T (nI k) _ (by omega) (by omega) (by omega) cT tT (hnew.mpr (fun x x1 x2 x3 => absurd x3 (z2 x x1 x2)))
      · rw [if_neg (fun z => by rw [y3] at z; exact nI_m1ne (by omega) z)]
        subst y5
        have n1 := nn k h1 (by omega) e1
        have n2 := nn y y1 (by omega) y4
        by_cases cc : 0 ≤ Op.cmpValue (FP.dcmp (SC h a b ti k) (SC h a b ti y)) .g
        · rw [if_pos cc]
          have hz : ZV (SC h a b ti y) ≤ ZV (SC h a b ti k) := Int.not_lt.mp fun z => Int32.not_lt.mpr cc ((dlt_iff n1 n2).mpr z)
          refine ih (k + 1) fu T ch _ (by omega) (by omega) (by omega) cT tT (.inr ⟨y, y1, by omega, y3, y4, rfl, fun x x1 x2 x3 => ?_⟩)
          by_cases cx : x = k
          · rw [cx]; exact hz
          · exact y6 x x1 (by omega) x3
        · rw [if_neg cc]
          have hz : ZV (SC h a b ti k) < ZV (SC h a b ti y) := (dlt_iff n1 n2).mp (Int32.not_le.mp cc)
          refine ih (k + 1) fu T (nI k) _ (by omega) (by omega) (by omega) cT tT (hnew.mpr (fun x x1 x2 x3 => ?_))
          have := y6 x x1 x2 x3
          omega
theorem v_best {h : Hp} {n0 a b ti n : Nat} (q : WA h n0 a b ti) (h1 : 1 ≤ n) (h4 : n ≤ 4) (he : EE h a b ti n < 1000000000) : ∃ c, 1 ≤ c ∧ c ≤ 4 ∧ V_best h (nI a) (nI b) (nI ti) = nI c ∧ NN (SC h a b ti c) ∧ NN (SC h a b ti n) ∧ ZV (SC h a b ti c) ≤ ZV (SC h a b ti n) := by
  have ee := fun n (h1 : 1 ≤ n) (h4 : n ≤ 4) => q.ee h1 h4 (Nat.le_refl 4)
  have cK := q.sc (n := 4) (Nat.le_refl 4)
  have nn : ∀ x, 1 ≤ x → x ≤ 4 → EE h a b ti x < 1000000000 → NN (SC h a b ti x) := fun x h1 h4 he => by
    obtain ⟨-, T1, at1, t1, d1, i1, j1, J⟩ := v_some q h1 h4 he
    exact (v_score q h1 h4 J).2
  rw [show nI 4 = (4 : Int32) from rfl] at ee cK
  have eF : V_best h (nI a) (nI b) (nI ti) = rsI (L_X8_best_27 h (nI a) (nI b) (nI ti) (2147483648 - 1 + 1) (F_X5_seek h (nI a) (nI b) (nI ti) 4) (-1) FP.dconst0 1).1 := by
    unfold V_best F_X8_best
    rw [if_pos q.ok]
  rw [eF]
  generalize F_X5_seek h (nI a) (nI b) (nI ti) 4 = K at ee cK ⊢
  obtain ⟨v, v1, v2⟩ := best_loop q cK ee 4 1 (2147483648 - 1 + 1) K (-1) FP.dconst0 (by omega) (by omega) (by omega) (cK.self q.2.1) TQ.rf (.inl ⟨rfl, fun x x1 x2 => by omega⟩)
  rw [v1]
  rcases v2 with ⟨-, z⟩ | ⟨c, c1, c2, c3, c4, c5⟩
  · exact absurd he (z n h1 (by omega))
  · exact ⟨c, c1, by omega, c3, nn c c1 (by omega) c4, nn n h1 h4 he, c5 n h1 (by omega) he⟩
