/-! ===== own: what the asks for journeys answer ===== -/
/-- what an ask for a journey is about -/
def WA (h : Hp) (n0 a b ti : Nat) : Prop := RStop h n0 ∧ World h n0 ∧ Small h n0 ∧ a < n0 ∧ b < n0 ∧ a ≠ b ∧ ti ≤ 140000
theorem IV.wa {h : Hp} {D : Nat → Int32} (I : IV h D) {n0 a b ti : Nat} (h4 : xFI h 403 0 = nI n0) (h10 : n0 ≤ 10) (ha : a < n0) (hb : b < n0) (hab : a ≠ b) (hti : ti ≤ 140000) : WA h n0 a b ti := by
  obtain ⟨m, hs, w⟩ := world_of I.W I.R
  have e : m = n0 := nI_inj (by have := hs.1; omega) (by omega) (hs.2.1.symm.trans h4)
  subst e
  exact ⟨hs, w, small_of I.R hs, ha, hb, hab, hti⟩
theorem WA.ok {h : Hp} {n0 a b ti : Nat} (q : WA h n0 a b ti) : okW h (nI a) (nI b) (nI ti) := by
  obtain ⟨hs, w, sm, ha, hb, hab, hti⟩ := q
  have h10 := hs.1
  exact ⟨⟨okS_mk hs.2.1 h10 ha, okS_mk hs.2.1 h10 hb⟩, fun z => hab (nI_inj (by omega) (by omega) z), okR_mk (lo := 0) (hi := 140000) (by omega) hti (by decide)⟩
theorem WA.sc {h : Hp} {n0 a b ti : Nat} (q : WA h n0 a b ti) {n : Nat} (hn : n ≤ 4) : SearchC h (F_X5_seek h (nI a) (nI b) (nI ti) (nI n)) n0 n a b ti := seek_spec q.2.1 q.2.2.1 q.2.2.2.1 q.2.2.2.2.2.2 hn
theorem okn_mk {n : Nat} (h1 : 1 ≤ n) (h4 : n ≤ 4) : okR (nI n) 1 4 := okR_mk (lo := 1) (hi := 4) h1 h4 (by decide)
/-- the end by n rides -/
def EE (h : Hp) (a b ti n : Nat) : Int32 := F_X5_end (F_X5_seek h (nI a) (nI b) (nI ti) (nI n)) (nI n)
theorem WA.ee {h : Hp} {n0 a b ti : Nat} (q : WA h n0 a b ti) {n N : Nat} (h1 : 1 ≤ n) (hN : n ≤ N) (h4 : N ≤ 4) : F_X5_end (F_X5_seek h (nI a) (nI b) (nI ti) (nI N)) (nI n) = EE h a b ti n :=
  end_uniq q.2.1 q.2.2.1 q.2.2.2.1 q.2.2.2.2.1 q.2.2.2.2.2.2 (by omega) h4 (q.sc (n := n) (by omega)) (q.sc (n := N) h4) (by omega) (Nat.le_refl _) hN
theorem v_arrival {h : Hp} {n0 a b ti n : Nat} (q : WA h n0 a b ti) (h1 : 1 ≤ n) (h4 : n ≤ 4) : V_arrival h (nI a) (nI b) (nI ti) (nI n) = F_X8_timeOrNone (EE h a b ti n) := by
  unfold V_arrival F_X8_arrival
  rw [if_pos q.ok, if_pos (okn_mk h1 h4)]
  rfl
theorem lt9 {x : Int32} : x < 1000000000 ↔ x.toInt < 1000000000 := by rw [Int32.lt_iff_toInt_lt, N9]
theorem ton_none {x : Int32} (hx : ¬ x < 1000000000) : F_X8_timeOrNone x = -1 := by
  unfold F_X8_timeOrNone
  rw [if_pos (Int32.not_lt.mp hx)]
theorem ton_some {x : Int32} (hx : x < 1000000000) : F_X8_timeOrNone x = x := by
  unfold F_X8_timeOrNone
  rw [if_neg (Int32.not_le.mpr hx)]
theorem ee_low {h : Hp} {n0 a b ti n : Nat} (q : WA h n0 a b ti) (h1 : 1 ≤ n) (h4 : n ≤ 4) : (ti : Int) < (EE h a b ti n).toInt ∧ ((EE h a b ti n).toInt = 1000000000 ∨ (EE h a b ti n).toInt ≤ 300200) := by
  have l := end_low q.2.1 q.2.2.1 q.2.2.2.1 q.2.2.2.2.1 q.2.2.2.2.2.2 h4 (q.sc (n := n) h4) (by omega) (Nat.le_refl _)
  have u := end_bnd q.2.1 q.2.2.1 q.2.2.2.2.1 q.2.2.2.2.2.2 h4 (q.sc (n := n) h4) (by omega) (Nat.le_refl _)
  exact ⟨l, u.imp id (fun z => z.2)⟩
/-- none by so many rides -/
theorem v_none {h : Hp} {n0 a b ti n : Nat} (q : WA h n0 a b ti) (h1 : 1 ≤ n) (h4 : n ≤ 4) (he : ¬ EE h a b ti n < 1000000000) : V_arrival h (nI a) (nI b) (nI ti) (nI n) = -1 ∧
    (∀ wh, okR wh 0 3 → V_journey h (nI a) (nI b) (nI ti) (nI n) wh = 13830554455654793216) ∧ (∀ ri wh, 0 ≤ ri → okR wh 0 5 → V_ride h (nI a) (nI b) (nI ti) (nI n) ri wh = -1) ∧
    V_book h (nI a) (nI b) (nI ti) (nI n) = -2000000003 ∧ N_book h (nI a) (nI b) (nI ti) (nI n) = h := by
  have ncl : (nI n).toNatClampNeg = n := nI_clamp (by omega)
  have t : F_X5_tell (F_X5_seek h (nI a) (nI b) (nI ti) (nI n)) n = (none, F_X5_seek h (nI a) (nI b) (nI ti) (nI n)) := tell_none he
  refine ⟨by rw [v_arrival q h1 h4, ton_none he], fun wh hw => ?_, fun ri wh hr hw => ?_, ?_, ?_⟩
  · unfold V_journey F_X8_journey
    rw [if_pos q.ok, if_pos (okn_mk h1 h4), if_pos hw, ncl, t, if_pos rfl]
    rfl
  · unfold V_ride F_X8_ride
    rw [if_pos q.ok, if_pos (okn_mk h1 h4), if_pos hw, if_pos hr, ncl, t, if_pos rfl]
    rfl
  · unfold V_book F_X8_book
    rw [if_pos q.ok, if_pos (okn_mk h1 h4), ncl, t, if_pos rfl]
    exact (by decide +kernel : rsI (.inr cy_e2) = -2000000003)
  · unfold N_book F_X8_book
    rw [if_pos q.ok, if_pos (okn_mk h1 h4), ncl, t, if_pos rfl]
/-- a journey by n rides: its heap T, where it lies, and its way -/
def Jn (h : Hp) (n0 a b ti n : Nat) (T : Hp) (at' t d i j : Nat → Nat) : Prop :=
  F_X5_tell (F_X5_seek h (nI a) (nI b) (nI ti) (nI n)) n = (some (xCN (F_X5_seek h (nI a) (nI b) (nI ti) (nI n)) 3), T) ∧ ToldC h (F_X5_seek h (nI a) (nI b) (nI ti) (nI n)) T n a b ti (EE h a b ti n) at' t d i j ∧
  Way h n0 (Rc (F_X5_seek h (nI a) (nI b) (nI ti) (nI n))) (Ec (F_X5_seek h (nI a) (nI b) (nI ti) (nI n))) (ti / 1440 - 1) (ti / 1440 + 1) b n (EE h a b ti n).toInt at' t d i j
theorem v_some {h : Hp} {n0 a b ti n : Nat} (q : WA h n0 a b ti) (h1 : 1 ≤ n) (h4 : n ≤ 4) (he : EE h a b ti n < 1000000000) : V_arrival h (nI a) (nI b) (nI ti) (nI n) = EE h a b ti n ∧ ∃ T at' t d i j, Jn h n0 a b ti n T at' t d i j := by
  refine ⟨by rw [v_arrival q h1 h4, ton_some he], ?_⟩
  rcases tells q.2.1 q.2.2.1 q.2.2.2.1 q.2.2.2.2.1 q.2.2.2.2.2.2 h4 (q.sc (n := n) h4) (by omega) (Nat.le_refl _) with ⟨e, -⟩ | ⟨-, r⟩
  · exact absurd he e
  · exact r
/-- a told heap and the one that was asked -/
theorem Jn.tq {h : Hp} {n0 a b ti n : Nat} {T : Hp} {at' t d i j : Nat → Nat} (J : Jn h n0 a b ti n T at' t d i j) : TQ (F_X5_seek h (nI a) (nI b) (nI ti) (nI n)) T := J.2.1.1
theorem Jn.eq {h : Hp} {n0 a b ti n : Nat} {T : Hp} {at' t d i j : Nat → Nat} (q : WA h n0 a b ti) (h4 : n ≤ 4) (J : Jn h n0 a b ti n T at' t d i j) : (∀ t p, stN T t p = stN h t p) ∧ (∀ t, lnN T t = lnN h t) ∧ (∀ t d p, dpI T t d p = dpI h t d p) ∧ (∀ t d p, arI T t d p = arI h t d p) ∧ (∀ t d, goN T t d ↔ goN h t d) ∧ World T n0 := by
  obtain ⟨w, e1, e2, e3, e4, e5⟩ := q.2.1.fx (q.sc (n := n) h4).1 (by decide)
  have tq := J.tq
  exact ⟨fun t p => (tq.eSt t p).trans (e1 t p), fun t => (tq.eLn t).trans (e2 t), fun t d p => (tq.eDp t d p).trans (e3 t d p), fun t d p => (tq.eAr t d p).trans (e4 t d p), fun t d => by rw [tq.eGo]; exact e5 t d, tq.world w⟩
theorem Jn.pl {h : Hp} {n0 a b ti n : Nat} {T : Hp} {at' t d i j : Nat → Nat} (q : WA h n0 a b ti) (J : Jn h n0 a b ti n T at' t d i j) {x : Nat} (hx : x < n) : t x < xLS h 11 ∧ d x < 100 ∧ i x < j x ∧ j x < lnN h (t x) ∧ lnN h (t x) ≤ 6 := Way.pl q.2.1 (by have := q.2.2.2.2.2.2; omega) J.2.2 hx
/-- what is told of a ride -/
theorem v_ride {h : Hp} {n0 a b ti n : Nat} {T : Hp} {at' t d i j : Nat → Nat} (q : WA h n0 a b ti) (h1 : 1 ≤ n) (h4 : n ≤ 4) (J : Jn h n0 a b ti n T at' t d i j) {x : Nat} (hx : x < n) : 
    (∀ wh, okR wh 0 5 → V_ride h (nI a) (nI b) (nI ti) (nI n) (nI x) wh = F_X4_tell T (t x) (rid (xCN (F_X5_seek h (nI a) (nI b) (nI ti) (nI n)) 5) n x) wh) := by
  intro wh hw
  have ncl : (nI n).toNatClampNeg = n := nI_clamp (by omega)
  have hr : (0 : Int32) ≤ nI x := Int32.not_lt.mp (nI_pos (by omega))
  obtain ⟨J1, J2, J3⟩ := J
  obtain ⟨u1, u2, u3, u4, u5, u6, u7, u8, u9⟩ := J2
  have er : F_X2_rideAt T (xCN (F_X5_seek h (nI a) (nI b) (nI ti) (nI n)) 3) (rls T (xCN (F_X5_seek h (nI a) (nI b) (nI ti) (nI n)) 3)) (nI x) = some (rid (xCN (F_X5_seek h (nI a) (nI b) (nI ti) (nI n)) 5) n x) := by
    unfold F_X2_rideAt
    rw [u8]
    have := rideAt_eq (T := T) (jj := xCN (F_X5_seek h (nI a) (nI b) (nI ti) (nI n)) 3) (R0 := (List.range' 0 n).map (rid (xCN (F_X5_seek h (nI a) (nI b) (nI ti) (nI n)) 5) n)) (f := rid (xCN (F_X5_seek h (nI a) (nI b) (nI ti) (nI n)) 5) n) (y := x) (by omega) n 0 (by omega) (by omega)
    rw [if_pos (by omega)] at this
    exact this
  have et : tr T (rid (xCN (F_X5_seek h (nI a) (nI b) (nI ti) (nI n)) 5) n x) = t x := by unfold tr; rw [(u9 x hx).1]; rfl
  unfold V_ride F_X8_ride
  rw [if_pos q.ok, if_pos (okn_mk h1 h4), if_pos hw, if_pos hr, ncl, J1]
  dsimp only
  rw [if_neg (fun z => nomatch z), er, if_neg (fun z => nomatch z)]
  dsimp only [Option.getD]
  rw [et]
  rfl
theorem ride_vals {h : Hp} {n0 a b ti n : Nat} {T : Hp} {at' t d i j : Nat → Nat} (R : RC h) (q : WA h n0 a b ti) (h1 : 1 ≤ n) (h4 : n ≤ 4) (J : Jn h n0 a b ti n T at' t d i j) {x : Nat} (hx : x < n) :
    V_ride h (nI a) (nI b) (nI ti) (nI n) (nI x) 0 = nI (t x) ∧ V_ride h (nI a) (nI b) (nI ti) (nI n) (nI x) 1 = nI (d x) ∧ V_ride h (nI a) (nI b) (nI ti) (nI n) (nI x) 3 = nI (stN h (t x) (j x)) ∧
    (V_ride h (nI a) (nI b) (nI ti) (nI n) (nI x) 4).toInt = dpI h (t x) (d x) (i x) ∧ (V_ride h (nI a) (nI b) (nI ti) (nI n) (nI x) 5).toInt = arI h (t x) (d x) (j x) := by
  have v := v_ride q h1 h4 J hx
  obtain ⟨p1, p2, p3, p4, p5⟩ := J.pl q hx
  obtain ⟨e1, e2, e3, e4, e5, w⟩ := J.eq q h4
  have fx := (q.sc (n := n) h4).1
  have tq := J.tq
  obtain ⟨u1, u2, u3, u4, u5, u6, u7, u8, u9⟩ := J.2.1
  obtain ⟨g1, g2, g3, g4, g5, g6⟩ := u9 x hx
  have e800 : xFI T 800 (t x) = nI (t x) := by
    obtain ⟨⟨m, -, htr⟩, -⟩ := R
    rw [tq.2.1 800 (by decide) (by decide), fx.2.1 800 (by decide)]
    exact (htr _ p1).1
  have ls : xLS T = xLS h := tq.2.2.2.trans fx.ls
  rw [v 0 (by decide), v 1 (by decide), v 3 (by decide), v 4 (by decide), v 5 (by decide)]
  refine ⟨e800, ?_, ?_, ?_, ?_⟩
  · exact g2
  · show F_X7_stopAt T (t x) (xFI T 503 _) = _
    rw [g4, ((w.2.2.2 (t x) (by rw [ls]; exact p1)).2.2.2.1 (j x) (by rw [e2]; exact p4)).1, e1]
  · show (F_X7_leaves T (t x) (xFI T 501 _) (xFI T 502 _)).toInt = _
    rw [g2, g3]
    exact e3 _ _ _
  · show (F_X7_reaches T (t x) (xFI T 501 _) (xFI T 503 _)).toInt = _
    rw [g2, g4]
    exact e4 _ _ _
/-- rides follow one another; the last leads to the goal -/
theorem ride_order {h : Hp} {n0 a b ti n : Nat} {T : Hp} {at' t d i j : Nat → Nat} (q : WA h n0 a b ti) (h4 : n ≤ 4) (J : Jn h n0 a b ti n T at' t d i j) : (∀ x, x + 1 < n → arI h (t x) (d x) (j x) ≤ dpI h (t (x + 1)) (d (x + 1)) (i (x + 1))) ∧ ∀ x, x + 1 = n → stN h (t x) (j x) = b → arI h (t x) (d x) (j x) = (EE h a b ti n).toInt := by
  obtain ⟨ls, wy⟩ := J.2.2
  have c := q.sc (n := n) h4
  constructor
  · intro x hx
    obtain ⟨f1, f2⟩ := wy (x + 1) hx
    obtain ⟨l1, l2, -⟩ := f2 (by omega)
    obtain ⟨-, -, -, ⟨-, -, -, -, g1, -⟩, -⟩ := (wy x (by omega)).1
    rw [g1]
    obtain ⟨l3, l4⟩ := l2
    have p := J.pl q hx
    have hst := ((q.2.1.2.2.2 (t (x + 1)) p.1).2.2.2.1 (i (x + 1)) (by omega)).2
    rcases q.2.2.1 (at' (x + 1)) _ l1 hst with z | z
    · exact absurd z l3
    · omega
  · intro x hx hb
    obtain ⟨-, -, -, ⟨-, -, -, g0, g1, -⟩, -⟩ := (wy x (by omega)).1
    obtain ⟨l1, l2, -⟩ := ls
    rw [hx] at g0 g1
    rw [g0] at hb
    rw [g1, ← l2.2, hb]
    unfold toB
    rw [if_pos rfl]
    have : (0 : Int32).toInt = 0 := by decide
    omega
