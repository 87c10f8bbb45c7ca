/-! ===== own: the rides of a way told, as both read them ===== -/
theorem TQ.eCg {h X : Hp} (q : TQ h X) (a : Nat) (at' t i : Nat → Nat) (m : Nat) : cgW X a at' t i m = cgW h a at' t i m := by
  unfold cgW
  simp only [q.eCh, q.eSt]
theorem ToldC.self {h T : Hp} {n a b ti : Nat} {e : Int32} {at' t d i j : Nat → Nat} (q : ToldC h h T n a b ti e at' t d i j) : ToldC T h T n a b ti e at' t d i j := by
  obtain ⟨q0, q1, q2, q3, q4, q5, q6, q7, q8⟩ := q
  refine ⟨q0, q1, q2, q3, q4, by rw [q0.eTo]; exact q5, q6, q7, fun x hx => ?_⟩
  rw [q0.eCg]
  exact q8 x hx
theorem Way.pl {h : Hp} {n0 fd ld b n : Nat} {e : Int} {R E : Nat → Nat → Int} {at' t d i j : Nat → Nat} (w : World h n0) (hld : ld < 100) (wy : Way h n0 R E fd ld b n e at' t d i j) {x : Nat} (hx : x < n) :
    t x < xLS h 11 ∧ d x < 100 ∧ i x < j x ∧ j x < lnN h (t x) ∧ lnN h (t x) ≤ 6 := by
  obtain ⟨f, -⟩ := wy.2 x hx
  obtain ⟨f1, f2, f3, f4, -⟩ := f
  exact ⟨f1, by omega, f4.2.1, f4.2.2.1, (w.2.2.2 (t x) f1).2.1⟩
theorem pl_not {h : Hp} {n0 t p : Nat} (w : World h n0) (ht : t < xLS h 11) (hp : p < lnN h t) : ¬ xFI h 810 t ≤ nI p := by
  obtain ⟨a, b, c, -⟩ := w.2.2.2 t ht
  rw [c]
  intro q
  have := (nI_leI (by omega) (by omega)).mp q
  omega
theorem dep_pl {h Y : Hp} {n0 : Nat} (W : CW h) (R : RC h) (w : World h n0) (m : MA h Y) {t d p : Nat} (ht : t < xLS h 11) (hd : d < 100) (hp : p < lnN h t) : F_X9_departure Y (nI t) (nI d) (nI p) = F_X7_leaves h t (nI d) (nI p) := by
  have := (w.2.2.2 t ht).2.1
  exact dep_eq W R m.2 ht hd (pl_not w ht hp) (by omega)
theorem arr_pl {h Y : Hp} {n0 : Nat} (W : CW h) (R : RC h) (w : World h n0) (m : MA h Y) {t d p : Nat} (ht : t < xLS h 11) (hd : d < 100) (hp : p < lnN h t) (h0 : p ≠ 0) : F_X9_arrivalOf Y (nI t) (nI d) (nI p) = F_X7_reaches h t (nI d) (nI p) := by
  have := (w.2.2.2 t ht).2.1
  exact arr_eq W R m.2 ht hd (pl_not w ht hp) (by omega) h0
theorem rideAt_eq {T : Hp} {jj : Nat} {R0 : List Nat} {f : Nat → Nat} {y : Nat} (hy : y < 2147483648) : ∀ (k x : Nat), x ≤ y → x + k < 2147483648 → L_X2_rideAt_7 T jj R0 (nI y) ((List.range' x k).map f) (nI x) = if y < x + k then some (f y) else none := by
  intro k
  induction k with
  | zero =>
    intro x hx _
    rw [if_neg (by omega)]
    rfl
  | succ k ih =>
    intro x hx hk
    show B_X2_rideAt_7 T jj R0 (nI y) (L_X2_rideAt_7 T jj R0 (nI y) ((List.range' (x + 1) k).map f)) (f x) (nI x) = _
    unfold B_X2_rideAt_7
    by_cases e : x = y
    · subst e
      rw [if_pos rfl, if_pos (by omega)]
    · rw [if_neg (fun z => e (nI_inj (by omega) hy z)), nI_1, ih (x + 1) (by omega) (by omega)]
      by_cases c : y < x + (k + 1)
      · rw [if_pos c, if_pos (by omega)]
      · rw [if_neg c, if_neg (by omega)]
/-- ride y, asked for -/
theorem ride_val {S : Nat → Int32} {N : Nat} {T Y HC : Hp} (IT : Inv S N T) {n0 fd ld a b n ti : Nat} {e : Int} {e' : Int32} {R E : Nat → Nat → Int} {at' t d i j : Nat → Nat} (w : World T n0) (mY : MA T Y) (hld : ld < 100) (wy : Way T n0 R E fd ld b n e at' t d i j)
    (tT : ToldC T HC T n a b ti e' at' t d i j) (fY : Found T Y n a b ti e' at' t d i j) {y : Nat} (hy : y < n) (hn4 : n ≤ 4) (wh : Int32) :
    (if wh = 0 then ((xAI Y 59 0 (nI y).toNatClampNeg), Y) else (if wh = 1 then ((xAI Y 60 0 (nI y).toNatClampNeg), Y) else (if wh = 2 then ((xAI Y 47 0 ((6 * (xAI Y 59 0 (nI y).toNatClampNeg)) + (xAI Y 61 0 (nI y).toNatClampNeg)).toNatClampNeg), Y) else (if wh = 3 then ((xAI Y 47 0 ((6 * (xAI Y 59 0 (nI y).toNatClampNeg)) + (xAI Y 62 0 (nI y).toNatClampNeg)).toNatClampNeg), Y) else
      (if wh = 4 then ((F_X9_departure Y (xAI Y 59 0 (nI y).toNatClampNeg) (xAI Y 60 0 (nI y).toNatClampNeg) (xAI Y 61 0 (nI y).toNatClampNeg)), Y) else ((F_X9_arrivalOf Y (xAI Y 59 0 (nI y).toNatClampNeg) (xAI Y 60 0 (nI y).toNatClampNeg) (xAI Y 62 0 (nI y).toNatClampNeg)), Y)))))) =
    (F_X4_tell T (tr T (rid (xCN HC 5) n y)) (rid (xCN HC 5) n y) wh, Y) := by
  obtain ⟨p1, p2, p3, p4, p5⟩ := wy.pl w hld hy
  obtain ⟨q1, q2, q3, q4, -⟩ := tT.2.2.2.2.2.2.2.2 y hy
  obtain ⟨y1, y2, y3, y4, -⟩ := fY.2.2.2.2 y hy
  have et : tr T (rid (xCN HC 5) n y) = t y := by unfold tr; rw [q1]; rfl
  have h20 := IT.W.t20
  obtain ⟨-, s47⟩ := mtrip IT.W IT.R mY p1
  have hst := (w.2.2.2 (t y) p1).2.2.2.1
  have e800 : xFI T 800 (t y) = nI (t y) := by
    obtain ⟨⟨m, -, htr⟩, -⟩ := IT.R
    exact (htr (t y) p1).1
  rw [et, nI_clamp (show y < 2 ^ 31 by omega), y1, y2, y3, y4, xi6, xi6, nI_clamp (show 6 * t y + i y < 2 ^ 31 by omega), nI_clamp (show 6 * t y + j y < 2 ^ 31 by omega), s47 (i y) (by omega), s47 (j y) p4, dep_pl IT.W IT.R w mY p1 p2 (by omega), arr_pl IT.W IT.R w mY p1 p2 p4 (by omega)]
  unfold F_X4_tell F_X4_boardsAt F_X4_departs F_X4_arrives
  rw [e800, q2, q3, q4, (hst (i y) (by omega)).1, (hst (j y) p4).1]
  by_cases w0 : wh = 0
  · rw [if_pos w0, if_pos w0]
  by_cases w1 : wh = 1
  · rw [if_neg w0, if_neg w0, if_pos w1, if_pos w1]
  by_cases w2 : wh = 2
  · rw [if_neg w0, if_neg w0, if_neg w1, if_neg w1, if_pos w2, if_pos w2]
  by_cases w3 : wh = 3
  · rw [if_neg w0, if_neg w0, if_neg w1, if_neg w1, if_neg w2, if_neg w2, if_pos w3, if_pos w3]
  by_cases w4 : wh = 4
  · rw [if_neg w0, if_neg w0, if_neg w1, if_neg w1, if_neg w2, if_neg w2, if_neg w3, if_neg w3, if_pos w4, if_pos w4]
  · rw [if_neg w0, if_neg w0, if_neg w1, if_neg w1, if_neg w2, if_neg w2, if_neg w3, if_neg w3, if_neg w4, if_neg w4]
/-- the reference, behind a journey that the class told -/
theorem found_after {h T : Hp} (W : CW T) (RR : RC T) {n0 a b ti n : Nat} (hs0 : RStop T n0) (w : World T n0) (ha : a < n0) (hb : b < n0) (hti : ti ≤ 140000) (hn : n ≠ 0) (hn4 : n ≤ 4) (c : SearchC h h n0 n a b ti) (q : TQ h T) (he : F_X5_end h (nI n) < 1000000000)
    {at' t d i j : Nat → Nat} (wy : Way h n0 (Rc h) (Ec h) (ti / 1440 - 1) (ti / 1440 + 1) b n (F_X5_end h (nI n)).toInt at' t d i j) {H : Hp} (mH : MA T H) :
    Way T n0 (Rc h) (Ec h) (ti / 1440 - 1) (ti / 1440 + 1) b n (F_X5_end h (nI n)).toInt at' t d i j ∧ ∃ Y, F_X9_finds H (nI a) (nI b) (nI ti) n = (1, Y) ∧ FX [1021, 1022, 1023] [57, 58, 59, 60, 61, 62, 63] H Y ∧ MA T Y ∧ Found T Y n a b ti (F_X5_end h (nI n)) at' t d i j := by
  have wT := q.way wy
  have eR : Rc T = Rc h := funext (fun k => q.eRc k)
  have eE : Ec T = Ec h := funext (fun k => q.eEc k)
  have wT2 := wT
  rw [← eR, ← eE, ← q.eend] at wT2
  obtain ⟨Y, e1, e2, e3⟩ := finds_by W RR hs0 w ha hb hti hn hn4 (c.tq q) mH (by rw [q.eend]; exact he) wT2
  rw [q.eend] at e3
  exact ⟨wT, Y, e1, e2, mH.fx e2 (by decide) (by decide), e3⟩
theorem no_after {S : Nat → Int32} {N : Nat} {h T : Hp} (IT : Inv S N T) {n0 a b ti n : Nat} (hs0 : RStop T n0) (w : World T n0) (ha : a < n0) (hb : b < n0) (hti : ti ≤ 140000) (hn : n ≠ 0) (hn4 : n ≤ 4) (c : SearchC h h n0 n a b ti) (q : TQ h T) (he : ¬ F_X5_end h (nI n) < 1000000000) {H : Hp} (mH : MA T H) :
    ∃ Y, F_X9_finds H (nI a) (nI b) (nI ti) n = (0, Y) ∧ FX [1021, 1022, 1023] [57, 58, 59, 60, 61, 62, 63] H Y ∧ MA T Y := by
  obtain ⟨Y, e1, e2⟩ := finds_no IT hs0 w ha hb hti hn hn4 (c.tq q) mH (by rw [q.eend]; exact he)
  exact ⟨Y, e1, e2, mH.fx e2 (by decide) (by decide)⟩
theorem MA.al2 {T : Hp} {v : Int64} : MA T (sFI (sFI (sAL T v) 1043 0 0) 1043 0 0) :=
  MA.fx (h := T) (H := sAL T v) ⟨fun _ _ _ => rfl, fun _ _ _ _ => rfl⟩ (fs := [1043]) (ss := []) ((FX.sfi (by decide)).trans (FX.sfi (by decide))) (by decide) (by decide)
theorem MA.ad2 {T : Hp} {v : UInt64} : MA T (sFI (sFI (sAD T v) 1043 0 0) 1043 0 0) :=
  MA.fx (h := T) (H := sAD T v) ⟨fun _ _ _ => rfl, fun _ _ _ _ => rfl⟩ (fs := [1043]) (ss := []) ((FX.sfi (by decide)).trans (FX.sfi (by decide))) (by decide) (by decide)
theorem ag_ride {S : Nat → Int32} {N : Nat} {h : Hp} (I : Inv S N h) (a b ti n ri wh : Int32) : AG S N [cy_e3, cy_e1] (F_X8_ride h a b ti n ri wh).1 (A1_ride h a b ti n ri wh) (F_X9_ride (A1_ride h a b ti n ri wh) a b ti n ri wh).2 (xAL (F_X9_ride (A1_ride h a b ti n ri wh) a b ti n ri wh).2 0 = (F_X9_ride (A1_ride h a b ti n ri wh) a b ti n ri wh).1.toInt64) := by
  obtain ⟨n0, hs0, w⟩ := world_of I.W I.R
  have h10 := hs0.1
  by_cases p : okW h a b ti
  · have ee : eW h a b = cy_e1 := by unfold eW; rw [if_pos p.1]
    by_cases pn : okR n 1 4
    · by_cases pw : okR wh 0 5
      · by_cases pr : ri < 0
        · have e8 : F_X8_ride h a b ti n ri wh = (.inr cy_e1, h) := by unfold F_X8_ride; rw [if_pos p, if_pos pn, if_pos pw, if_neg (fun q => Int32.lt_irrefl (Int32.lt_of_lt_of_le pr q))]
          have eA : A1_ride h a b ti n ri wh = h := by unfold A1_ride; rw [e8]; rfl
          rw [eA, e8]
          unfold F_X9_ride
          rw [if_pos pn, if_pos pw, if_pos pr]
          exact ag_way1 I (by decide +kernel) (by decide +kernel) ee (aw0_eq h10 hs0.2.1 hs0.2.2.1 a b ti)
        · obtain ⟨ia, jb, tt, hi, hj, hij, ht, rfl, rfl, rfl⟩ := okW_of h10 hs0.2.1 p
          obtain ⟨k, rfl, hk1, hk4⟩ := okR_of (a := 1) (n := 4) (by decide) (by decide) pn
          obtain ⟨y, hy, rfl⟩ := nI_of pr
          have sc := seek_spec w (small_of I.R hs0) (b := jb) hi ht hk4
          have ck : (nI k).toNatClampNeg = k := nI_clamp (by omega)
          have eF : F_X8_ride h (nI ia) (nI jb) (nI tt) (nI k) (nI y) wh = if (F_X5_tell (F_X5_seek h (nI ia) (nI jb) (nI tt) (nI k)) k).1 = none then (.inl (some (.inl (.int (-1)))), (F_X5_tell (F_X5_seek h (nI ia) (nI jb) (nI tt) (nI k)) k).2) else
              (if (F_X2_rideAt ((F_X5_tell (F_X5_seek h (nI ia) (nI jb) (nI tt) (nI k)) k).2) (xCN (F_X5_seek h (nI ia) (nI jb) (nI tt) (nI k)) 3) (rls ((F_X5_tell (F_X5_seek h (nI ia) (nI jb) (nI tt) (nI k)) k).2) (xCN (F_X5_seek h (nI ia) (nI jb) (nI tt) (nI k)) 3)) (nI y)) = none then (.inl (some (.inl (.int (-1)))), (F_X5_tell (F_X5_seek h (nI ia) (nI jb) (nI tt) (nI k)) k).2) else
                (.inl (some (.inl (.int (F_X4_tell ((F_X5_tell (F_X5_seek h (nI ia) (nI jb) (nI tt) (nI k)) k).2) (tr ((F_X5_tell (F_X5_seek h (nI ia) (nI jb) (nI tt) (nI k)) k).2) ((F_X2_rideAt ((F_X5_tell (F_X5_seek h (nI ia) (nI jb) (nI tt) (nI k)) k).2) (xCN (F_X5_seek h (nI ia) (nI jb) (nI tt) (nI k)) 3) (rls ((F_X5_tell (F_X5_seek h (nI ia) (nI jb) (nI tt) (nI k)) k).2) (xCN (F_X5_seek h (nI ia) (nI jb) (nI tt) (nI k)) 3)) (nI y)).getD 0)) ((F_X2_rideAt ((F_X5_tell (F_X5_seek h (nI ia) (nI jb) (nI tt) (nI k)) k).2) (xCN (F_X5_seek h (nI ia) (nI jb) (nI tt) (nI k)) 3) (rls ((F_X5_tell (F_X5_seek h (nI ia) (nI jb) (nI tt) (nI k)) k).2) (xCN (F_X5_seek h (nI ia) (nI jb) (nI tt) (nI k)) 3)) (nI y)).getD 0) wh)))), (F_X5_tell (F_X5_seek h (nI ia) (nI jb) (nI tt) (nI k)) k).2)) := by
            unfold F_X8_ride
            rw [if_pos p, if_pos pn, if_pos pw, if_pos (Int32.not_lt.mp pr), ck]
          generalize F_X5_seek h (nI ia) (nI jb) (nI tt) (nI k) = HC at sc eF
          have fq : FQ h HC := sc.1.fq (by decide) (by decide)
          have IC := I.fq fq (I.D.fx sc.1 (by decide) (by decide))
          have e403 : xFI HC 403 0 = nI n0 := (fq.2.1 403 (by decide) 0).trans hs0.2.1
          obtain ⟨hsC, wC⟩ := IC.stops e403 h10
          have cC := sc.self w
          rcases step_told IC hsC wC hi hj ht (by omega) hk4 cC with ⟨e, ne⟩ | ⟨T, at', t, d, i, j, eT, he, tq, IT, tT, wy, b1, b2⟩
          · rw [e, if_pos rfl] at eF
            have eA : A1_ride h (nI ia) (nI jb) (nI tt) (nI k) (nI y) wh = sAL HC (-1 : Int32).toInt64 := by unfold A1_ride; rw [eF]; rfl
            rw [eA, eF]
            have p2 : okWM (sAL HC (-1 : Int32).toInt64) (nI ia) (nI jb) (nI tt) := (okWM_iff h10 hs0.2.1 hsC.2.2.1).mpr p
            obtain ⟨Y, eY, fx, -⟩ := no_after IC hsC wC hi hj ht (by omega) hk4 cC TQ.rf ne (H := sFI (sFI (sAL HC (-1 : Int32).toInt64) 1043 0 0) 1043 0 0) MA.al2
            have eM : F_X9_ride (sAL HC (-1 : Int32).toInt64) (nI ia) (nI jb) (nI tt) (nI k) (nI y) wh = (-1, Y) := by
              unfold F_X9_ride
              rw [if_pos pn, if_pos pw, if_neg pr, if_pos p2, ck, eY, if_pos rfl]
            rw [eM]
            exact ag_ans IC FQ.rf IC.D (fqe2.trans (fx.fq (by decide) (by decide))) ((fx.2.1 1043 (by decide) 0).trans rfl) ((al_sr fx.1).trans rfl)
          · obtain ⟨hsT, wT⟩ := IT.stops ((tq.2.1 403 (by decide) (by decide) 0).trans e403) h10
            have er : F_X2_rideAt T (xCN HC 3) (rls T (xCN HC 3)) (nI y) = if y < k then some (rid (xCN HC 5) k y) else none := by
              unfold F_X2_rideAt
              rw [tT.2.2.2.2.2.2.2.1]
              have := rideAt_eq (T := T) (jj := xCN HC 3) (R0 := (List.range' 0 k).map (rid (xCN HC 5) k)) (f := rid (xCN HC 5) k) (y := y) (by omega) k 0 (by omega) (by omega)
              rw [Nat.zero_add] at this
              exact this
            rw [eT, if_neg (by intro z; cases z)] at eF
            dsimp only at eF
            by_cases yk : y < k
            · rw [er, if_pos yk, if_neg (by intro z; cases z)] at eF
              have eF2 : F_X8_ride h (nI ia) (nI jb) (nI tt) (nI k) (nI y) wh = (.inl (some (.inl (.int (F_X4_tell T (tr T (rid (xCN HC 5) k y)) (rid (xCN HC 5) k y) wh)))), T) := eF
              generalize hv : F_X4_tell T (tr T (rid (xCN HC 5) k y)) (rid (xCN HC 5) k y) wh = v at eF2
              have eA : A1_ride h (nI ia) (nI jb) (nI tt) (nI k) (nI y) wh = sAL T v.toInt64 := by unfold A1_ride; rw [eF2]; rfl
              rw [eA, eF2]
              have p2 : okWM (sAL T v.toInt64) (nI ia) (nI jb) (nI tt) := (okWM_iff h10 hs0.2.1 hsT.2.2.1).mpr p
              obtain ⟨wyT, Y, eY, fx, mY, fY⟩ := found_after IT.W IT.R hsT wT hi hj ht (by omega) hk4 cC tq he wy (H := sFI (sFI (sAL T v.toInt64) 1043 0 0) 1043 0 0) MA.al2
              have eM : F_X9_ride (sAL T v.toInt64) (nI ia) (nI jb) (nI tt) (nI k) (nI y) wh = (v, Y) := by
                unfold F_X9_ride
                rw [if_pos pn, if_pos pw, if_neg pr, if_pos p2, ck, eY, if_neg (by decide : ¬ (1 : Int32) = 0), if_pos ((nI_ltI (by omega) (by omega)).mpr yk), ← hv]
                exact ride_val IT wT mY (by omega) wyT tT.self fY yk hk4 wh
              rw [eM]
              exact ag_ans IT FQ.rf IT.D (fqe2.trans (fx.fq (by decide) (by decide))) ((fx.2.1 1043 (by decide) 0).trans rfl) ((al_sr fx.1).trans rfl)
            · rw [er, if_neg yk, if_pos rfl] at eF
              have eA : A1_ride h (nI ia) (nI jb) (nI tt) (nI k) (nI y) wh = sAL T (-1 : Int32).toInt64 := by unfold A1_ride; rw [eF]; rfl
              rw [eA, eF]
              have p2 : okWM (sAL T (-1 : Int32).toInt64) (nI ia) (nI jb) (nI tt) := (okWM_iff h10 hs0.2.1 hsT.2.2.1).mpr p
              obtain ⟨wyT, Y, eY, fx, mY, fY⟩ := found_after IT.W IT.R hsT wT hi hj ht (by omega) hk4 cC tq he wy (H := sFI (sFI (sAL T (-1 : Int32).toInt64) 1043 0 0) 1043 0 0) MA.al2
              have eM : F_X9_ride (sAL T (-1 : Int32).toInt64) (nI ia) (nI jb) (nI tt) (nI k) (nI y) wh = (-1, Y) := by
                unfold F_X9_ride
                rw [if_pos pn, if_pos pw, if_neg pr, if_pos p2, ck, eY, if_neg (by decide : ¬ (1 : Int32) = 0), if_neg (fun z => yk ((nI_ltI (by omega) (by omega)).mp z))]
              rw [eM]
              exact ag_ans IT FQ.rf IT.D (fqe2.trans (fx.fq (by decide) (by decide))) ((fx.2.1 1043 (by decide) 0).trans rfl) ((al_sr fx.1).trans rfl)
      · have e8 : F_X8_ride h a b ti n ri wh = (.inr cy_e1, h) := by unfold F_X8_ride; rw [if_pos p, if_pos pn, if_neg pw]
        have eA : A1_ride h a b ti n ri wh = h := by unfold A1_ride; rw [e8]; rfl
        rw [eA, e8]
        unfold F_X9_ride
        rw [if_pos pn, if_neg pw]
        exact ag_way1 I (by decide +kernel) (by decide +kernel) ee (aw0_eq h10 hs0.2.1 hs0.2.2.1 a b ti)
    · have e8 : F_X8_ride h a b ti n ri wh = (.inr cy_e1, h) := by unfold F_X8_ride; rw [if_pos p, if_neg pn]
      have eA : A1_ride h a b ti n ri wh = h := by unfold A1_ride; rw [e8]; rfl
      rw [eA, e8]
      unfold F_X9_ride
      rw [if_neg pn]
      exact ag_way1 I (by decide +kernel) (by decide +kernel) ee (aw0_eq h10 hs0.2.1 hs0.2.2.1 a b ti)
  · have e8 : F_X8_ride h a b ti n ri wh = (.inr (eW h a b), h) := by unfold F_X8_ride; rw [if_neg p]
    have eA : A1_ride h a b ti n ri wh = h := by unfold A1_ride; rw [e8]; rfl
    rw [eA, e8]
    unfold F_X9_ride
    by_cases pn : okR n 1 4
    · rw [if_pos pn]
      by_cases pw : okR wh 0 5
      · rw [if_pos pw]
        by_cases pr : ri < 0
        · rw [if_pos pr]
          exact ag_way I (by decide +kernel) (by decide +kernel) (aw0_eq h10 hs0.2.1 hs0.2.2.1 a b ti)
        · rw [if_neg pr, if_neg (fun q => p ((okWM_iff h10 hs0.2.1 hs0.2.2.1).mp q))]
          exact ag_way I (by decide +kernel) (by decide +kernel) (aw1_eq h10 hs0.2.1 hs0.2.2.1 p)
      · rw [if_neg pw]
        exact ag_way I (by decide +kernel) (by decide +kernel) (aw0_eq h10 hs0.2.1 hs0.2.2.1 a b ti)
    · rw [if_neg pn]
      exact ag_way I (by decide +kernel) (by decide +kernel) (aw0_eq h10 hs0.2.1 hs0.2.2.1 a b ti)
