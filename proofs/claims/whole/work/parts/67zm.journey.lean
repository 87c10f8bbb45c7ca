/-! ===== own: journey, best ===== -/
theorem nI_subC {a b : Nat} (h : b ≤ a) : nI a - nI b = nI (a - b) := by
  have e : nI a = nI (a - b) + nI b := by rw [nI_add, Nat.sub_add_cancel h]
  rw [e, Int32.add_sub_cancel]
/-- both fares -/
theorem fare_eq {S : Nat → Int32} {N : Nat} {T Y Y2 HC Z : Hp} (IT : Inv S N T) {n0 fd ld a b n ti : Nat} {e : Int} {e' : Int32} {R E : Nat → Nat → Int} {at' t d i j : Nat → Nat} (w : World T n0) (mA : ∀ s, s ∉ scA → ∀ i j, xAI Y s i j = xAI T s i j) (hld : ld < 100) (wy : Way T n0 R E fd ld b n e at' t d i j)
    (tT : ToldC T HC T n a b ti e' at' t d i j) (fY : Found T Y n a b ti e' at' t d i j) (hn4 : n ≤ 4) {jj : Nat} (hz1 : ∀ f, f / 100 ≠ 1 → ∀ i, xFI Z f i = xFI T f i) (hz2 : ∀ f, f / 100 ≠ 1 → ∀ i, xFR Z f i = xFR T f i) (hz3 : ∀ s i j, xAI Z s i j = xAI T s i j)
    (hy1 : ∀ s, s ≠ 65 → ∀ j, xAI Y2 s 0 j = xAI Y s 0 j) (hy2 : xFI Y2 1021 0 = xFI Y 1021 0) :
    ∃ v X' Y', v ≤ 160000 ∧ F_X1_fareOf Z jj (rls T (xCN HC 3)) = (nI v, X') ∧ FX [] [27] Z X' ∧ F_X9_fareOf Y2 = (nI v, Y') ∧ FX [] [64] Y2 Y' := by
  have h20 := IT.W.t20
  have hR := IT.R
  obtain ⟨⟨m0, -, htr⟩, -, -, -, hP, -⟩ := hR
  let fm : Nat → Nat := fun x => (xFI T 802 (t x)).toNatClampNeg
  let ln : Nat → Nat := fun x => j x - i x
  let ba : Nat → Nat := fun f => (xAI T 24 0 f).toNatClampNeg
  let ce : Nat → Nat := fun f => (xAI T 25 0 f).toNatClampNeg
  let su : Nat → Nat := fun f => (xAI T 26 0 f).toNatClampNeg
  have firm : ∀ x, x < n → fm x < 3 ∧ xFI T 802 (t x) = nI (fm x) ∧ xAI T 43 0 (t x) = nI (fm x) := fun x hx => by
    obtain ⟨p1, -⟩ := wy.pl w hld hx
    obtain ⟨-, -, ⟨k, hk, e1, e2⟩, -⟩ := htr (t x) p1
    have ek : fm x = k := by
      show (xFI T 802 (t x)).toNatClampNeg = k
      rw [e1, nI_clamp (by omega)]
    rw [ek]
    exact ⟨hk, e1, e2⟩
  have pr : ∀ f, f < 3 → (ba f ≤ 10000 ∧ ce f ≤ 1000 ∧ su f ≤ 10000) ∧ (xAI T 24 0 f = nI (ba f) ∧ xAI T 25 0 f = nI (ce f) ∧ xAI T 26 0 f = nI (su f)) ∧ xAI T 54 0 f = nI (ba f) ∧ xAI T 55 0 f = nI (ce f) ∧ xAI T 56 0 f = nI (su f) := fun f hf => by
    obtain ⟨x, y, z, x1, y1, z1, a1, a2, b1, b2, c1, c2⟩ := hP f hf
    have e1 : ba f = x := by
      show (xAI T 24 0 f).toNatClampNeg = x
      rw [a1, nI_clamp (by omega)]
    have e2 : ce f = y := by
      show (xAI T 25 0 f).toNatClampNeg = y
      rw [b1, nI_clamp (by omega)]
    have e3 : su f = z := by
      show (xAI T 26 0 f).toNatClampNeg = z
      rw [c1, nI_clamp (by omega)]
    rw [e1, e2, e3]
    exact ⟨⟨x1, y1, z1⟩, ⟨a1, b1, c1⟩, a2, b2, c2⟩
  have hfd : ∀ x, x < n → fm x < 3 ∧ ln x ≤ 5 := fun x hx => by
    obtain ⟨p1, p2, p3, p4, p5⟩ := wy.pl w hld hx
    refine ⟨(firm x hx).1, ?_⟩
    show j x - i x ≤ 5
    omega
  have lenE : ∀ x, x < n → nI (j x) - nI (i x) = nI (ln x) := fun x hx => by
    obtain ⟨p1, p2, p3, p4, p5⟩ := wy.pl w hld hx
    exact nI_subC (by omega)
  have zc : ∀ x, x < n → xFI Z 802 (tr Z (rid (xCN HC 5) n x)) = nI (fm x) ∧ xFI Z 503 (rid (xCN HC 5) n x) - xFI Z 502 (rid (xCN HC 5) n x) = nI (ln x) := fun x hx => by
    obtain ⟨q1, q2, q3, q4, q5, q6⟩ := tT.2.2.2.2.2.2.2.2 x hx
    have et : tr Z (rid (xCN HC 5) n x) = t x := by
      unfold tr
      rw [hz2 500 (by decide), q1]
      rfl
    rw [et, hz1 802 (by decide), hz1 503 (by decide), hz1 502 (by decide), q3, q4]
    exact ⟨(firm x hx).2.1, lenE x hx⟩
  have zp : ∀ f, f < 3 → xAI Z 24 0 f = nI (ba f) ∧ xAI Z 25 0 f = nI (ce f) ∧ xAI Z 26 0 f = nI (su f) := fun f hf => by
    rw [hz3, hz3, hz3]
    exact (pr f hf).2.1
  have ym : ∀ x, x < n → xAI Y2 43 0 (xAI Y2 59 0 x).toNatClampNeg = nI (fm x) ∧ xAI Y2 62 0 x - xAI Y2 61 0 x = nI (ln x) := fun x hx => by
    obtain ⟨p1, p2, p3, p4, p5⟩ := wy.pl w hld hx
    obtain ⟨y1, y2, y3, y4, y5⟩ := fY.2.2.2.2 x hx
    rw [hy1 43 (by decide), hy1 59 (by decide), hy1 62 (by decide), hy1 61 (by decide), y1, y3, y4, nI_clamp (show t x < 2 ^ 31 by omega), mA 43 (by decide)]
    exact ⟨(firm x hx).2.2, lenE x hx⟩
  have yp : ∀ f, f < 3 → xAI Y2 54 0 f = nI (ba f) ∧ xAI Y2 55 0 f = nI (ce f) ∧ xAI Y2 56 0 f = nI (su f) := fun f hf => by
    rw [hy1 54 (by decide), hy1 55 (by decide), hy1 56 (by decide), mA 54 (by decide), mA 55 (by decide), mA 56 (by decide)]
    exact (pr f hf).2.2
  obtain ⟨X', G, e1, q1, g0, lG⟩ := fareC (jj := jj) hn4 hfd (fun f hf => (pr f hf).1) zc zp
  obtain ⟨Y', F, e2, q2, f0, lF⟩ := fareM hn4 hfd (fun f hf => (pr f hf).1) ym yp (hy2.trans fY.1)
  have eq := fare_one hfd (fun f hf => (pr f hf).1) hn4 g0 f0 lG lF n (Nat.le_refl _) n (Nat.le_refl _)
  have bd := QG_bnd hfd (fun f hf => (pr f hf).1) hn4 g0 lG n (Nat.le_refl _) (Nat.le_refl _)
  refine ⟨G n, X', Y', by omega, ?_, q1, by rw [eq]; exact e2, q2⟩
  rw [tT.2.2.2.2.2.2.2.1]
  exact e1
theorem Found.tq {h X Y : Hp} (q : TQ h X) {n a b ti : Nat} {e : Int32} {at' t d i j : Nat → Nat} (f : Found X Y n a b ti e at' t d i j) : Found h Y n a b ti e at' t d i j := by
  obtain ⟨f1, f2, f3, f4, f5⟩ := f
  refine ⟨f1, f2, f3, by rw [← q.eTo]; exact f4, fun x hx => ?_⟩
  rw [← q.eCg]
  exact f5 x hx
theorem ad_sr {h h' : Hp} (x : SR h h') : xAD h' 0 = xAD h 0 := congrArg (fun x => x.2.2.2.2 0) x.2
theorem Inv.ad {S : Nat → Int32} {n : Nat} {h : Hp} {v : UInt64} (I : Inv S n h) : Inv S n (sAD h v) := I
theorem ag_ansD {S : Nat → Int32} {N : Nat} {h HC mh : Hp} (I : Inv S N h) {l : List String} {x v : UInt64} {V : Prop} (hc : FQ h HC) (D : DM HC) (q : FQ (sAD HC v) mh) (e : xFI mh 1043 0 = 0) (hV : V) : AG S N l (.inl (some (.inl (.double x)))) (sAD HC v) mh V :=
  have md : Mid S N HC := ⟨I.MW.sr hc.1, D, I.S.fq hc⟩
  ⟨md, fun m => ((I.fq hc D).ad (v := v)).fq q m.2, e, fun _ => hV⟩
theorem MA.ad3 {T X : Hp} {v : UInt64} (q : FX [] [27] T X) : MA T (sFI (sFI (sAD X v) 1043 0 0) 1043 0 0) :=
  MA.fx (h := T) (H := sAD X v) ⟨fun f _ i => q.2.1 f (by simp) i, fun s hs i j => q.2.2 s (by
    intro z
    simp only [List.mem_singleton] at z
    subst z
    exact hs (by decide)) i j⟩ (fs := [1043]) (ss := []) ((FX.sfi (by decide)).trans (FX.sfi (by decide))) (by decide) (by decide)
theorem ag_journey {S : Nat → Int32} {N : Nat} {h : Hp} (I : Inv S N h) (a b ti n wh : Int32) : AG S N [cy_e3, cy_e1] (F_X8_journey h a b ti n wh).1 (A1_journey h a b ti n wh) (F_X9_journey (A1_journey h a b ti n wh) a b ti n wh).2 (xAD (F_X9_journey (A1_journey h a b ti n wh) a b ti n wh).2 0 = (F_X9_journey (A1_journey h a b ti n wh) a b ti n wh).1) := by
  obtain ⟨n0, hs0, w⟩ := world_of I.W I.R
  have h10 := hs0.1
  by_cases p : okW h a b ti
  · have ee : eW h a b = cy_e1 := by unfold eW; rw [if_pos p.1]
    by_cases pn : okR n 1 4
    · by_cases pw : okR wh 0 3
      · obtain ⟨ia, jb, tt, hi, hj, hij, ht, rfl, rfl, rfl⟩ := okW_of h10 hs0.2.1 p
        obtain ⟨k, rfl, hk1, hk4⟩ := okR_of (a := 1) (n := 4) (by decide) (by decide) pn
        have sc := seek_spec w (small_of I.R hs0) (b := jb) hi ht hk4
        have ck : (nI k).toNatClampNeg = k := nI_clamp (by omega)
        have eF : F_X8_journey h (nI ia) (nI jb) (nI tt) (nI k) wh = (if (F_X5_tell (F_X5_seek h (nI ia) (nI jb) (nI tt) (nI k)) k).1 = none then (.inl (some (.inl (.double 13830554455654793216))), (F_X5_tell (F_X5_seek h (nI ia) (nI jb) (nI tt) (nI k)) k).2) else
            (if wh = 0 then (.inl (some (.inl (.double (F_X2_chance ((F_X5_tell (F_X5_seek h (nI ia) (nI jb) (nI tt) (nI k)) k).2) (xCN (F_X5_seek h (nI ia) (nI jb) (nI tt) (nI k)) 3) (rls ((F_X5_tell (F_X5_seek h (nI ia) (nI jb) (nI tt) (nI k)) k).2) (xCN (F_X5_seek h (nI ia) (nI jb) (nI tt) (nI k)) 3)))))), (F_X5_tell (F_X5_seek h (nI ia) (nI jb) (nI tt) (nI k)) k).2) else
            (if wh = 1 then (.inl (some (.inl (.double (F_X2_carbon ((F_X5_tell (F_X5_seek h (nI ia) (nI jb) (nI tt) (nI k)) k).2) (xCN (F_X5_seek h (nI ia) (nI jb) (nI tt) (nI k)) 3) (rls ((F_X5_tell (F_X5_seek h (nI ia) (nI jb) (nI tt) (nI k)) k).2) (xCN (F_X5_seek h (nI ia) (nI jb) (nI tt) (nI k)) 3)))))), (F_X5_tell (F_X5_seek h (nI ia) (nI jb) (nI tt) (nI k)) k).2) else
            (if wh = 2 then (.inl (some (.inl (.double (F_X2_score ((F_X5_tell (F_X5_seek h (nI ia) (nI jb) (nI tt) (nI k)) k).2) (xCN (F_X5_seek h (nI ia) (nI jb) (nI tt) (nI k)) 3) (rls ((F_X5_tell (F_X5_seek h (nI ia) (nI jb) (nI tt) (nI k)) k).2) (xCN (F_X5_seek h (nI ia) (nI jb) (nI tt) (nI k)) 3)))))), (F_X5_tell (F_X5_seek h (nI ia) (nI jb) (nI tt) (nI k)) k).2) else
            (.inl (some (.inl (.double (FP.i2d ((F_X1_fareOf ((F_X5_tell (F_X5_seek h (nI ia) (nI jb) (nI tt) (nI k)) k).2) (xCN (F_X5_seek h (nI ia) (nI jb) (nI tt) (nI k)) 3) (rls ((F_X5_tell (F_X5_seek h (nI ia) (nI jb) (nI tt) (nI k)) k).2) (xCN (F_X5_seek h (nI ia) (nI jb) (nI tt) (nI k)) 3))).1))))), (F_X1_fareOf ((F_X5_tell (F_X5_seek h (nI ia) (nI jb) (nI tt) (nI k)) k).2) (xCN (F_X5_seek h (nI ia) (nI jb) (nI tt) (nI k)) 3) (rls ((F_X5_tell (F_X5_seek h (nI ia) (nI jb) (nI tt) (nI k)) k).2) (xCN (F_X5_seek h (nI ia) (nI jb) (nI tt) (nI k)) 3))).2))))) := by
          unfold F_X8_journey
          rw [if_pos p, if_pos pn, if_pos pw, ck]
        generalize F_X5_seek h (nI ia) (nI jb) (nI tt) (nI k) = HC at sc eF
        have fq : FQ h HC := sc.1.fq (by decide) (by decide)
        have IC := I.fq fq (I.D.fx sc.1 (by decide) (by decide))
        have e403 : xFI HC 403 0 = nI n0 := (fq.2.1 403 (by decide) 0).trans hs0.2.1
        obtain ⟨hsC, wC⟩ := IC.stops e403 h10
        have cC := sc.self w
        rcases step_told IC hsC wC hi hj ht (by omega) hk4 cC with ⟨e, ne⟩ | ⟨T, at', t, d, i, j, eT, he, tq, IT, tT, wy, b1, b2⟩
        · rw [e, if_pos rfl] at eF
          have eA : A1_journey h (nI ia) (nI jb) (nI tt) (nI k) wh = sAD HC 13830554455654793216 := by unfold A1_journey; rw [eF]; rfl
          rw [eA, eF]
          have p2 : okWM (sAD HC 13830554455654793216) (nI ia) (nI jb) (nI tt) := (okWM_iff h10 hs0.2.1 hsC.2.2.1).mpr p
          obtain ⟨Y, eY, fx, -⟩ := no_after IC hsC wC hi hj ht (by omega) hk4 cC TQ.rf ne (H := sFI (sFI (sAD HC 13830554455654793216) 1043 0 0) 1043 0 0) MA.ad2
          have eM : F_X9_journey (sAD HC 13830554455654793216) (nI ia) (nI jb) (nI tt) (nI k) wh = (13830554455654793216, Y) := by
            unfold F_X9_journey
            rw [if_pos pn, if_pos pw, if_pos p2, ck, eY, if_pos rfl]
          rw [eM]
          exact ag_ansD IC FQ.rf IC.D (fqe2.trans (fx.fq (by decide) (by decide))) ((fx.2.1 1043 (by decide) 0).trans rfl) ((ad_sr fx.1).trans rfl)
        · obtain ⟨hsT, wT⟩ := IT.stops ((tq.2.1 403 (by decide) (by decide) 0).trans e403) h10
          rw [eT, if_neg (by intro z; cases z)] at eF
          dsimp only at eF
          -- an answer v, out of the heap T
          have ans : ∀ v, F_X8_journey h (nI ia) (nI jb) (nI tt) (nI k) wh = (.inl (some (.inl (.double v))), T) → (∀ Y, MA T Y → Way T n0 (Rc HC) (Ec HC) (tt / 1440 - 1) (tt / 1440 + 1) jb k (F_X5_end HC (nI k)).toInt at' t d i j → Found T Y k ia jb tt (F_X5_end HC (nI k)) at' t d i j →
              (if wh = 0 then ((F_X9_chance Y), Y) else (if wh = 1 then ((F_X9_carbon Y), Y) else (if wh = 2 then ((F_X9_score Y), Y) else ((FP.i2d ((F_X9_fareOf Y).1)), (F_X9_fareOf Y).2)))) = (v, Y)) →
              AG S N [cy_e3, cy_e1] (F_X8_journey h (nI ia) (nI jb) (nI tt) (nI k) wh).1 (A1_journey h (nI ia) (nI jb) (nI tt) (nI k) wh) (F_X9_journey (A1_journey h (nI ia) (nI jb) (nI tt) (nI k) wh) (nI ia) (nI jb) (nI tt) (nI k) wh).2 (xAD (F_X9_journey (A1_journey h (nI ia) (nI jb) (nI tt) (nI k) wh) (nI ia) (nI jb) (nI tt) (nI k) wh).2 0 = (F_X9_journey (A1_journey h (nI ia) (nI jb) (nI tt) (nI k) wh) (nI ia) (nI jb) (nI tt) (nI k) wh).1) := by
            intro v e8 hv
            have eA : A1_journey h (nI ia) (nI jb) (nI tt) (nI k) wh = sAD T v := by unfold A1_journey; rw [e8]; rfl
            rw [eA, e8]
            have p2 : okWM (sAD T v) (nI ia) (nI jb) (nI tt) := (okWM_iff h10 hs0.2.1 hsT.2.2.1).mpr p
            obtain ⟨wyT, Y, eY, fx, mY, fY⟩ := found_after IT.W IT.R hsT wT hi hj ht (by omega) hk4 cC tq he wy (H := sFI (sFI (sAD T v) 1043 0 0) 1043 0 0) MA.ad2
            have eM : F_X9_journey (sAD T v) (nI ia) (nI jb) (nI tt) (nI k) wh = (v, Y) := by
              unfold F_X9_journey
              rw [if_pos pn, if_pos pw, if_pos p2, ck, eY, if_neg (by decide : ¬ (1 : Int32) = 0)]
              exact hv Y mY wyT fY
            rw [eM]
            exact ag_ansD IT FQ.rf IT.D (fqe2.trans (fx.fq (by decide) (by decide))) ((fx.2.1 1043 (by decide) 0).trans rfl) ((ad_sr fx.1).trans rfl)
          by_cases w0 : wh = 0
          · rw [if_pos w0] at eF
            exact ans _ eF (fun Y mY wyT fY => by rw [if_pos w0, chance_eq IT wT mY (by omega) wyT tT.self fY (by omega) hk4])
          by_cases w1 : wh = 1
          · rw [if_neg w0, if_pos w1] at eF
            exact ans _ eF (fun Y mY wyT fY => by rw [if_neg w0, if_pos w1, carbon_eq IT wT mY.2 (by omega) wyT tT.self fY hk4])
          by_cases w2 : wh = 2
          · rw [if_neg w0, if_neg w1, if_pos w2] at eF
            exact ans _ eF (fun Y mY wyT fY => by rw [if_neg w0, if_neg w1, if_pos w2, score_eq IT wT mY.2 (by omega) wyT tT.self fY hk4])
          · rw [if_neg w0, if_neg w1, if_neg w2] at eF
            -- the fare's row is written
            have fareOK : ∀ Y, MA T Y → Way T n0 (Rc HC) (Ec HC) (tt / 1440 - 1) (tt / 1440 + 1) jb k (F_X5_end HC (nI k)).toInt at' t d i j → Found T Y k ia jb tt (F_X5_end HC (nI k)) at' t d i j →
                ∃ v X' Y', v ≤ 160000 ∧ F_X1_fareOf T (xCN HC 3) (rls T (xCN HC 3)) = (nI v, X') ∧ FX [] [27] T X' ∧ F_X9_fareOf Y = (nI v, Y') ∧ FX [] [64] Y Y' := fun Y mY wyT fY =>
              fare_eq IT wT mY.2 (by omega) wyT tT.self fY hk4 (fun _ _ _ => rfl) (fun _ _ _ => rfl) (fun _ _ _ => rfl) (fun _ _ _ => rfl) rfl
            generalize hX : F_X1_fareOf T (xCN HC 3) (rls T (xCN HC 3)) = fx1 at eF
            obtain ⟨fv, X⟩ := fx1
            dsimp only at eF
            have qX : FX [] [27] T X := by
              obtain ⟨wyT, Y, eY, fx, mY, fY⟩ := found_after IT.W IT.R hsT wT hi hj ht (by omega) hk4 cC tq he wy (H := T) ⟨fun _ _ _ => rfl, fun _ _ _ _ => rfl⟩
              obtain ⟨v, X', Y', -, e1, q1, -⟩ := fareOK Y mY wyT fY
              rw [hX] at e1
              cases e1
              exact q1
            have eA : A1_journey h (nI ia) (nI jb) (nI tt) (nI k) wh = sAD X (FP.i2d fv) := by unfold A1_journey; rw [eF]; rfl
            rw [eA, eF]
            have p2 : okWM (sAD X (FP.i2d fv)) (nI ia) (nI jb) (nI tt) := (okWM_iff h10 hs0.2.1 ((qX.2.1 1000 (by simp) 0).trans hsT.2.2.1)).mpr p
            obtain ⟨wyT, Y, eY, fx, mY, fY⟩ := found_after IT.W IT.R hsT wT hi hj ht (by omega) hk4 cC tq he wy (H := sFI (sFI (sAD X (FP.i2d fv)) 1043 0 0) 1043 0 0) (MA.ad3 qX)
            obtain ⟨v, X', Y', -, e1, q1, e2, q2⟩ := fareOK Y mY wyT fY
            rw [hX] at e1
            cases e1
            have eM : F_X9_journey (sAD X (FP.i2d (nI v))) (nI ia) (nI jb) (nI tt) (nI k) wh = (FP.i2d (nI v), Y') := by
              unfold F_X9_journey
              rw [if_pos pn, if_pos pw, if_pos p2, ck, eY, if_neg (by decide : ¬ (1 : Int32) = 0), if_neg w0, if_neg w1, if_neg w2]
              dsimp only
              rw [e2]
            rw [eM]
            exact ag_ansD IT (qX.fq (by decide) (by decide)) (IT.D.fx qX (by decide) (by decide)) (fqe2.trans ((fx.fq (by decide) (by decide)).trans (q2.fq (by decide) (by decide)))) ((q2.2.1 1043 (by decide) 0).trans ((fx.2.1 1043 (by decide) 0).trans rfl)) ((ad_sr q2.1).trans ((ad_sr fx.1).trans rfl))
      · have e8 : F_X8_journey h a b ti n wh = (.inr cy_e1, h) := by unfold F_X8_journey; rw [if_pos p, if_pos pn, if_neg pw]
        have eA : A1_journey h a b ti n wh = h := by unfold A1_journey; rw [e8]; rfl
        rw [eA, e8]
        unfold F_X9_journey
        rw [if_pos pn, if_neg pw]
        exact ag_way1 I (by decide +kernel) (by decide +kernel) ee (aw0_eq h10 hs0.2.1 hs0.2.2.1 a b ti)
    · have e8 : F_X8_journey h a b ti n wh = (.inr cy_e1, h) := by unfold F_X8_journey; rw [if_pos p, if_neg pn]
      have eA : A1_journey h a b ti n wh = h := by unfold A1_journey; rw [e8]; rfl
      rw [eA, e8]
      unfold F_X9_journey
      rw [if_neg pn]
      exact ag_way1 I (by decide +kernel) (by decide +kernel) ee (aw0_eq h10 hs0.2.1 hs0.2.2.1 a b ti)
  · have e8 : F_X8_journey h a b ti n wh = (.inr (eW h a b), h) := by unfold F_X8_journey; rw [if_neg p]
    have eA : A1_journey h a b ti n wh = h := by unfold A1_journey; rw [e8]; rfl
    rw [eA, e8]
    unfold F_X9_journey
    by_cases pn : okR n 1 4
    · rw [if_pos pn]
      by_cases pw : okR wh 0 3
      · rw [if_pos pw, if_neg (fun q => p ((okWM_iff h10 hs0.2.1 hs0.2.2.1).mp q))]
        exact ag_way I (by decide +kernel) (by decide +kernel) (aw1_eq h10 hs0.2.1 hs0.2.2.1 p)
      · rw [if_neg pw]
        exact ag_way I (by decide +kernel) (by decide +kernel) (aw0_eq h10 hs0.2.1 hs0.2.2.1 a b ti)
    · rw [if_neg pn]
      exact ag_way I (by decide +kernel) (by decide +kernel) (aw0_eq h10 hs0.2.1 hs0.2.2.1 a b ti)
/-- the best, class and reference -/
theorem bestC {S : Nat → Int32} {N n0 a b ti : Nat} {h0 : Hp} (h10 : n0 ≤ 10) (ha : a < n0) (hb : b < n0) (hti : ti ≤ 140000) : ∀ (mm k fu : Nat) (H : Hp) (ch : Int32) (le : UInt64), k + mm = 5 → 1 ≤ k → mm < fu → Inv S N H → xFI H 403 0 = nI n0 → SearchC H H n0 4 a b ti →
    ∃ v T, L_X8_best_27 h0 (nI a) (nI b) (nI ti) fu H ch le k = (.inl (some (.inl (.int v))), T) ∧ TQ H T ∧ Inv S N T ∧
      ∀ (A : Hp) (fu' : Nat) (M : Hp), mm < fu' → MA T M → ∃ Y, L_X9_best_22 A (nI a) (nI b) (nI ti) fu' M ch le k = (v, Y) ∧ FX [1021, 1022, 1023] [57, 58, 59, 60, 61, 62, 63] M Y := by
  intro mm
  induction mm with
  | zero =>
    intro k fu H ch le hk hk1 hf I e403 c
    obtain ⟨fu, rfl⟩ : ∃ g, fu = g + 1 := ⟨fu - 1, by omega⟩
    obtain rfl : k = 5 := by omega
    refine ⟨ch, H, ?_, TQ.rf, I, fun A fu' M hf' mM => ⟨M, ?_, FX.rf⟩⟩
    · rw [L_X8_best_27_s]
      unfold B_X8_best_27
      rw [if_pos (by decide)]
    · obtain ⟨fu', rfl⟩ : ∃ g, fu' = g + 1 := ⟨fu' - 1, by omega⟩
      rw [L_X9_best_22_s]
      unfold B_X9_best_22
      rw [if_pos (by decide)]
  | succ mm ih =>
    intro k fu H ch le hk hk1 hf I e403 c
    obtain ⟨fu, rfl⟩ : ∃ g, fu = g + 1 := ⟨fu - 1, by omega⟩
    obtain ⟨hs0, w⟩ := I.stops e403 h10
    have h4 : ¬ (4 : Int32) < nI k := fun z => by
      have := (nI_ltI (a := 4) (b := k) (by decide) (by omega)).mp z
      omega
    have ck := c.mono (m := k) (by omega)
    rcases step_told I hs0 w ha hb hti (by omega) (by omega) ck with ⟨e, ne⟩ | ⟨T, at', t, d, i, j, eT, he, tq, IT, tT, wy, b1, b2⟩
    · obtain ⟨v, T, e2, q2, I2, f2⟩ := ih (k + 1) fu H ch le (by omega) (by omega) (by omega) I e403 c
      refine ⟨v, T, ?_, q2, I2, fun A fu' M hf' mM => ?_⟩
      · rw [L_X8_best_27_s]
        unfold B_X8_best_27
        rw [if_neg h4, e, if_pos rfl]
        exact e2
      · obtain ⟨fu', rfl⟩ : ∃ g, fu' = g + 1 := ⟨fu' - 1, by omega⟩
        obtain ⟨hsT, wT⟩ := I2.stops ((q2.2.1 403 (by decide) (by decide) 0).trans e403) h10
        obtain ⟨Y, eY, fx, mY⟩ := no_after I2 hsT wT ha hb hti (by omega) (by omega) ck q2 ne mM
        obtain ⟨Y2, e3, fx2⟩ := f2 A fu' Y (by omega) mY
        refine ⟨Y2, ?_, fx.trans fx2⟩
        rw [L_X9_best_22_s]
        unfold B_X9_best_22
        rw [if_neg h4, eY, if_pos rfl]
        exact e3
    · obtain ⟨hs1, w1⟩ := IT.stops ((tq.2.1 403 (by decide) (by decide) 0).trans e403) h10
      -- behind this ride: goes on with ch', le' on both sides
      have go : ∀ (ch' : Int32) (le' : UInt64), L_X8_best_27 h0 (nI a) (nI b) (nI ti) (fu + 1) H ch le k = L_X8_best_27 h0 (nI a) (nI b) (nI ti) fu T ch' le' (k + 1) →
          (∀ (A : Hp) (fu' : Nat) (M Y : Hp), F_X9_finds M (nI a) (nI b) (nI ti) k = (1, Y) → F_X9_score Y = F_X2_score T (xCN H 3) (rls T (xCN H 3)) → L_X9_best_22 A (nI a) (nI b) (nI ti) (fu' + 1) M ch le k = L_X9_best_22 A (nI a) (nI b) (nI ti) fu' Y ch' le' (k + 1)) →
          ∃ v T, L_X8_best_27 h0 (nI a) (nI b) (nI ti) (fu + 1) H ch le k = (.inl (some (.inl (.int v))), T) ∧ TQ H T ∧ Inv S N T ∧
            ∀ (A : Hp) (fu' : Nat) (M : Hp), mm + 1 < fu' → MA T M → ∃ Y, L_X9_best_22 A (nI a) (nI b) (nI ti) fu' M ch le k = (v, Y) ∧ FX [1021, 1022, 1023] [57, 58, 59, 60, 61, 62, 63] M Y := by
        intro ch' le' g1 g2
        obtain ⟨v, T2, e2, q2, I2, f2⟩ := ih (k + 1) fu T ch' le' (by omega) (by omega) (by omega) IT ((tq.2.1 403 (by decide) (by decide) 0).trans e403) (c.tq tq)
        refine ⟨v, T2, g1.trans e2, tq.trans q2, I2, fun A fu' M hf' mM => ?_⟩
        obtain ⟨fu', rfl⟩ : ∃ g, fu' = g + 1 := ⟨fu' - 1, by omega⟩
        obtain ⟨hsT, wT⟩ := I2.stops (((tq.trans q2).2.1 403 (by decide) (by decide) 0).trans e403) h10
        obtain ⟨wyT, Y, eY, fx, mY, fY⟩ := found_after I2.W I2.R hsT wT ha hb hti (by omega) (by omega) ck (tq.trans q2) he wy mM
        have mA : ∀ s, s ∉ scA → ∀ i j, xAI Y s i j = xAI T s i j := fun s hs i j => (mY.2 s hs i j).trans (q2.1 s i j)
        have sc : F_X9_score Y = F_X2_score T (xCN H 3) (rls T (xCN H 3)) := (score_eq IT w1 mA (by omega) (tq.way wy) tT.self (fY.tq q2) (by omega)).symm
        obtain ⟨Y2, e3, fx2⟩ := f2 A fu' Y (by omega) mY
        exact ⟨Y2, (g2 A fu' M Y eY sc).trans e3, fx.trans fx2⟩
      by_cases c1 : ch = -1
      · refine go (nI k) (F_X2_score T (xCN H 3) (rls T (xCN H 3))) ?_ (fun A fu' M Y eY sc => ?_)
        · rw [L_X8_best_27_s]
          unfold B_X8_best_27
          rw [if_neg h4, eT, if_neg (by intro z; cases z), if_pos c1]
        · rw [L_X9_best_22_s]
          unfold B_X9_best_22
          rw [if_neg h4, eY, if_neg (by decide : ¬ (1 : Int32) = 0), if_pos c1]
          dsimp only
          rw [sc]
      · by_cases c2 : 0 ≤ (Op.cmpValue (FP.dcmp (F_X2_score T (xCN H 3) (rls T (xCN H 3))) le) .g)
        · refine go ch le ?_ (fun A fu' M Y eY sc => ?_)
          · rw [L_X8_best_27_s]
            unfold B_X8_best_27
            rw [if_neg h4, eT, if_neg (by intro z; cases z), if_neg c1, if_pos c2]
          · rw [L_X9_best_22_s]
            unfold B_X9_best_22
            rw [if_neg h4, eY, if_neg (by decide : ¬ (1 : Int32) = 0), if_neg c1]
            dsimp only
            rw [sc, if_pos c2]
        · refine go (nI k) (F_X2_score T (xCN H 3) (rls T (xCN H 3))) ?_ (fun A fu' M Y eY sc => ?_)
          · rw [L_X8_best_27_s]
            unfold B_X8_best_27
            rw [if_neg h4, eT, if_neg (by intro z; cases z), if_neg c1, if_neg c2]
          · rw [L_X9_best_22_s]
            unfold B_X9_best_22
            rw [if_neg h4, eY, if_neg (by decide : ¬ (1 : Int32) = 0), if_neg c1]
            dsimp only
            rw [sc, if_neg c2]
theorem ag_best {S : Nat → Int32} {N : Nat} {h : Hp} (I : Inv S N h) (a b ti : Int32) : AG S N [cy_e3, cy_e1] (F_X8_best h a b ti).1 (A1_best h a b ti) (F_X9_best (A1_best h a b ti) a b ti).2 (xAL (F_X9_best (A1_best h a b ti) a b ti).2 0 = (F_X9_best (A1_best h a b ti) a b ti).1.toInt64) := by
  obtain ⟨n0, hs0, w⟩ := world_of I.W I.R
  have h10 := hs0.1
  by_cases p : okW h a b ti
  · obtain ⟨i, j, t, hi, hj, hij, ht, rfl, rfl, rfl⟩ := okW_of h10 hs0.2.1 p
    have sc := seek_spec w (small_of I.R hs0) (b := j) hi ht (Nat.le_refl 4)
    rw [show nI 4 = (4 : Int32) from rfl] at sc
    have eF : F_X8_best h (nI i) (nI j) (nI t) = L_X8_best_27 h (nI i) (nI j) (nI t) (2147483648 - 1 + 1) (F_X5_seek h (nI i) (nI j) (nI t) 4) (-1) FP.dconst0 1 := by unfold F_X8_best; rw [if_pos p]
    generalize F_X5_seek h (nI i) (nI j) (nI t) 4 = HC at sc eF
    have fq : FQ h HC := sc.1.fq (by decide) (by decide)
    have IC := I.fq fq (I.D.fx sc.1 (by decide) (by decide))
    have e403 : xFI HC 403 0 = nI n0 := (fq.2.1 403 (by decide) 0).trans hs0.2.1
    obtain ⟨v, T, e2, q2, I2, f2⟩ := bestC (h0 := h) h10 hi hj ht 4 1 (2147483648 - 1 + 1) HC (-1) FP.dconst0 (by omega) (by omega) (by omega) IC e403 (sc.self w)
    rw [e2] at eF
    have eA : A1_best h (nI i) (nI j) (nI t) = sAL T v.toInt64 := by unfold A1_best; rw [eF]; rfl
    rw [eA, eF]
    obtain ⟨hsT, wT⟩ := I2.stops ((q2.2.1 403 (by decide) (by decide) 0).trans e403) h10
    have p2 : okWM (sAL T v.toInt64) (nI i) (nI j) (nI t) := (okWM_iff h10 hs0.2.1 hsT.2.2.1).mpr p
    obtain ⟨Y, eY, fx⟩ := f2 (sAL T v.toInt64) (2147483648 - 1 + 1) (sFI (sFI (sAL T v.toInt64) 1043 0 0) 1043 0 0) (by omega) MA.al2
    have eM : F_X9_best (sAL T v.toInt64) (nI i) (nI j) (nI t) = (v, Y) := by
      unfold F_X9_best
      rw [if_pos p2]
      exact eY
    rw [eM]
    exact ag_ans I2 FQ.rf I2.D (fqe2.trans (fx.fq (by decide) (by decide))) ((fx.2.1 1043 (by decide) 0).trans rfl) ((al_sr fx.1).trans rfl)
  · have e8 : F_X8_best h a b ti = (.inr (eW h a b), h) := by unfold F_X8_best; rw [if_neg p]
    have eA : A1_best h a b ti = h := by unfold A1_best; rw [e8]; rfl
    rw [eA, e8]
    unfold F_X9_best
    rw [if_neg (fun q => p ((okWM_iff h10 hs0.2.1 hs0.2.2.1).mp q))]
    exact ag_way I (by decide +kernel) (by decide +kernel) (aw1_eq h10 hs0.2.1 hs0.2.2.1 p)
