/-! ===== own: a new booking ===== -/
theorem nI_subC {a b : Nat} (h : b ≤ a) : nI a - nI b = nI (a - b) := by
  have e : nI a = nI (a - b) + nI b := by rw [nI_add, Nat.sub_add_cancel h]
  rw [e, Int32.add_sub_cancel]
theorem has_all {h : Hp} {j : Nat} {R : List Nat} : ∀ Q : List Nat, ¬ L_X8_hasSeats_5 h j R Q = 0 → ∀ r, r ∈ Q → 1 ≤ F_X8_freeSeats h (tr h r) (xFI h 501 r) := by
  intro Q
  induction Q with
  | nil => intro _ r hr; cases hr
  | cons x Q ih =>
    intro e r hr
    rw [L_X8_hasSeats_5_s] at e
    unfold B_X8_hasSeats_5 at e
    by_cases c : 1 ≤ F_X8_freeSeats h (tr h x) (xFI h 501 x)
    · rw [if_pos c] at e
      rcases List.mem_cons.mp hr with rfl | hr
      · exact c
      · exact ih e r hr
    · rw [if_neg c] at e
      exact absurd rfl e
/-- grown by a journey: bookings as they were -/
theorem gr_bk {h S T : Hp} (W : CW h) (s : SR h S) (e501 : xFI S 501 = xFI h 501) (g : GR S T) {b : Nat} (hb : b < xLS h 12) : bj T b = bj h b ∧ rls T (bj h b) = rls h (bj h b) ∧ ∀ r, r ∈ rls h (bj h b) → tr T r = tr h r ∧ xFI T 501 r = xFI h 501 r := by
  have ec : xCN S = xCN h := congrArg (fun z => z.1) s.2
  have er : rls S (bj h b) = rls h (bj h b) := rls_sr s _
  refine ⟨(g.bk b).trans (bj_sr s b), (g.rl (by rw [ec]; exact W.j3 hb) (fun r hr => by rw [ec]; rw [er] at hr; exact W.r5 hb hr)).trans er, fun r hr => ⟨?_, ?_⟩⟩
  · have o : r < xCN S 5 := by rw [ec]; exact W.r5 hb hr
    unfold tr
    rw [g.1 500 r ⟨fun _ => o, fun e => absurd e (by decide)⟩, show xFR S = xFR h from s.1]
  · have o : r < xCN S 5 := by rw [ec]; exact W.r5 hb hr
    rw [g.2.1 501 (by decide) r ⟨fun _ => o, fun e => absurd e (by decide)⟩, e501]
theorem v_seats {h : Hp} (W : CW h) {t d : Nat} (ht : t < xLS h 11) (hd : d < 100) : V_seats h (nI t) (nI d) = F_X8_freeSeats h t (nI d) := by
  have h20 := W.t20
  unfold V_seats F_X8_seats
  rw [if_pos (okT_mk W ht), if_pos (show okR (nI d) 0 99 from okR_mk (lo := 0) (hi := 99) (by omega) (by omega) (by decide)), nI_clamp (show t < 2 ^ 31 by omega)]
  rfl
theorem sub1_int {x y : Int32} (h0 : 0 ≤ x.toInt) (h : y.toInt = x.toInt - 1) : y = x - 1 := by
  apply Int32.toInt_inj.mp
  rw [h, Int32.toInt_sub]
  have h1 : (1 : Int32).toInt = 1 := by decide
  have h2 := x.toInt_lt
  rw [h1, Int.bmod_eq_of_le (by omega) (by omega)]
theorem iv_book {h : Hp} {D : Nat → Int32} {n0 a b ti n : Nat} (I : IV h D) (q : WA h n0 a b ti) (h1 : 1 ≤ n) (h4 : n ≤ 4) :
    (V_book h (nI a) (nI b) (nI ti) (nI n) = -2000000003 ∧ N_book h (nI a) (nI b) (nI ti) (nI n) = h) ∨
    ∃ t0 d0, t0 < xLS h 11 ∧ d0 < 100 ∧ V_ride h (nI a) (nI b) (nI ti) (nI n) 0 0 = nI t0 ∧ V_ride h (nI a) (nI b) (nI ti) (nI n) 0 1 = nI d0 ∧
      V_book h (nI a) (nI b) (nI ti) (nI n) = nI (xLS h 12) ∧ xLS h 12 < 30 ∧ LQ (N_book h (nI a) (nI b) (nI ti) (nI n)) ∧
      (∀ D', D' 2 = nI (xLS h 12 + 1) → (∀ z, z ≠ 2 → D' z = D z) → IV (N_book h (nI a) (nI b) (nI ti) (nI n)) D') ∧
      V_ofBooking (N_book h (nI a) (nI b) (nI ti) (nI n)) (nI (xLS h 12)) 0 = 0 ∧ V_right (N_book h (nI a) (nI b) (nI ti) (nI n)) (nI (xLS h 12)) = 0 ∧
      V_seats (N_book h (nI a) (nI b) (nI ti) (nI n)) (nI t0) (nI d0) = V_seats h (nI t0) (nI d0) - 1 ∧ 0 ≤ V_seats (N_book h (nI a) (nI b) (nI ti) (nI n)) (nI t0) (nI d0) ∧
      V_calls (N_book h (nI a) (nI b) (nI ti) (nI n)) (nI t0) 0 1 0 = -2000000003 ∧ (F_X8_calls (N_book h (nI a) (nI b) (nI ti) (nI n)) (nI t0) 0 1 0).2 = N_book h (nI a) (nI b) (nI ti) (nI n) := by
  have e2 : rsI (.inr cy_e2) = -2000000003 := by decide +kernel
  by_cases he : EE h a b ti n < 1000000000
  case neg =>
    obtain ⟨-, -, -, z1, z2⟩ := v_none q h1 h4 he
    exact .inl ⟨z1, z2⟩
  obtain ⟨-, T, at', t, d, i, j, J⟩ := v_some q h1 h4 he
  obtain ⟨I1, ⟨⟨m, ms, htr⟩, R2, R3, R4⟩, I3, I4, I5, I6, I7⟩ := id I
  have h20 := I.W.t20
  have h30 := I.W.b30
  have ncl : (nI n).toNatClampNeg = n := nI_clamp (by omega)
  have rv := ride_vals ⟨⟨m, ms, htr⟩, R2, R3, R4⟩ q h1 h4 J (x := 0) (by omega)
  have pl := fun {x : Nat} (hx : x < n) => J.pl q hx
  have J1 := J.1
  have tq := J.tq
  have tT := J.2.1
  have sc := q.sc (n := n) h4
  have fx := sc.1
  have hgr : GR (F_X5_seek h (nI a) (nI b) (nI ti) (nI n)) T := by
    have := tell_gr (h := F_X5_seek h (nI a) (nI b) (nI ti) (nI n)) n
    rw [J1] at this
    exact this
  have WS : CW (F_X5_seek h (nI a) (nI b) (nI ti) (nI n)) := I.W.sr fx.1
  have CS : CN (F_X5_seek h (nI a) (nI b) (nI ti) (nI n)) := I1.2.1.sr fx.1
  have WT : CW T := hgr.cw WS
  have CT : CN T := hgr.cn CS
  have hcj : Chn (xFR T) (xLS T 11) (xFR T 301 (xCN (F_X5_seek h (nI a) (nI b) (nI ti) (nI n)) 3)) (rls T (xCN (F_X5_seek h (nI a) (nI b) (nI ti) (nI n)) 3)) := by
    have := (tell_some WS h4 (by rw [J1]; exact fun z => nomatch z)).2
    rw [J1] at this
    exact this
  obtain ⟨hj5, hr5⟩ := told_r5 tT
  have eF : F_X8_book h (nI a) (nI b) (nI ti) (nI n) = (if 30 ≤ nI (xLS T 12) then (.inr cy_e2, T) else if F_X8_hasSeats T (xCN (F_X5_seek h (nI a) (nI b) (nI ti) (nI n)) 3) (rls T (xCN (F_X5_seek h (nI a) (nI b) (nI ti) (nI n)) 3)) = 0 then (.inr cy_e2, T) else
      (.inl (some (.inl (.int (nI (xLS T 12))))), H_add (F_X0_init (F_X1_fareOf (sNO T 1) (xCN (F_X5_seek h (nI a) (nI b) (nI ti) (nI n)) 3) (rls T (xCN (F_X5_seek h (nI a) (nI b) (nI ti) (nI n)) 3))).2 (xCN T 1) (xCN (F_X5_seek h (nI a) (nI b) (nI ti) (nI n)) 3) (F_X1_fareOf (sNO T 1) (xCN (F_X5_seek h (nI a) (nI b) (nI ti) (nI n)) 3) (rls T (xCN (F_X5_seek h (nI a) (nI b) (nI ti) (nI n)) 3))).1 (xFI (F_X1_fareOf (sNO T 1) (xCN (F_X5_seek h (nI a) (nI b) (nI ti) (nI n)) 3) (rls T (xCN (F_X5_seek h (nI a) (nI b) (nI ti) (nI n)) 3))).2 905 0)) 12 (xCN T 1))) := by
    unfold F_X8_book
    rw [if_pos q.ok, if_pos (okn_mk h1 h4), ncl, J1]
    dsimp only
    rw [if_neg (fun z => nomatch z)]
  have eLT : xLS T = xLS h := tq.2.2.2.trans fx.ls
  by_cases c30 : 30 ≤ nI (xLS T 12)
  · rw [if_pos c30] at eF
    exact .inl ⟨by unfold V_book; rw [eF]; exact e2, by unfold N_book; rw [eF]⟩
  rw [if_neg c30] at eF
  by_cases cS : F_X8_hasSeats T (xCN (F_X5_seek h (nI a) (nI b) (nI ti) (nI n)) 3) (rls T (xCN (F_X5_seek h (nI a) (nI b) (nI ti) (nI n)) 3)) = 0
  · rw [if_pos cS] at eF
    exact .inl ⟨by unfold V_book; rw [eF]; exact e2, by unfold N_book; rw [eF]⟩
  rw [if_neg cS] at eF
  right
  have c30' : xLS h 12 < 30 := by
    rw [eLT] at c30
    exact Nat.lt_of_not_le (fun z => c30 ((nI_leI (a := 30) (by decide) (by omega)).mpr z))
  -- the fare
  have fi : ∀ f, f / 100 ≠ 5 → f / 100 ≠ 3 → f ∉ [603, 604, 605, 606, 607] → xFI T f = xFI h f := fun f a b c => by
    funext z
    rw [tq.2.1 f a b z, fx.2.1 f (by simpa using c) z]
  have ai : ∀ s, s ≠ 20 → s ≠ 21 → xAI T s = xAI h s := fun s a b => by
    funext x y
    rw [tq.1 s x y, fx.2.2 s (by simp [ss2, a, b]) x y]
  have hti := q.2.2.2.2.2.2
  obtain ⟨fm, hfm⟩ : ∃ fm : Nat → Nat, ∀ x, x < n → fm x < 3 ∧ xFI h 802 (t x) = nI (fm x) := by
    refine ⟨fun x => (xFI h 802 (t x)).toNatClampNeg, fun x hx => ?_⟩
    obtain ⟨k, k1, k2⟩ := (htr (t x) (pl hx).1).2.1
    dsimp only
    rw [k2, nI_clamp (show k < 2 ^ 31 by omega)]
    exact ⟨k1, rfl⟩
  obtain ⟨ba, ce, su, hpr⟩ : ∃ ba ce su : Nat → Nat, ∀ f, f < 3 → (ba f ≤ 10000 ∧ ce f ≤ 1000 ∧ su f ≤ 10000) ∧ xAI h 24 0 f = nI (ba f) ∧ xAI h 25 0 f = nI (ce f) ∧ xAI h 26 0 f = nI (su f) := by
    refine ⟨fun f => (xAI h 24 0 f).toNatClampNeg, fun f => (xAI h 25 0 f).toNatClampNeg, fun f => (xAI h 26 0 f).toNatClampNeg, fun f hf => ?_⟩
    obtain ⟨x, y, z, b1, b2, b3, b4, b5, b6⟩ := R3 f hf
    dsimp only
    rw [b4, b5, b6, nI_clamp (show x < 2 ^ 31 by omega), nI_clamp (show y < 2 ^ 31 by omega), nI_clamp (show z < 2 ^ 31 by omega)]
    exact ⟨⟨b1, b2, b3⟩, rfl, rfl, rfl⟩
  have nfi : ∀ f, f / 100 ≠ 1 → xFI (sNO T 1) f = xFI T f := fun f hf => by
    funext z
    show (if f / 100 = 1 ∧ z = xCN T 1 then 0 else xFI T f z) = _
    rw [if_neg (fun w => hf w.1)]
  have nfr : ∀ f, f / 100 ≠ 1 → xFR (sNO T 1) f = xFR T f := fun f hf => by
    funext z
    show (if f / 100 = 1 ∧ z = xCN T 1 then none else xFR T f z) = _
    rw [if_neg (fun w => hf w.1)]
  have fd : ∀ x, x < n → fm x < 3 ∧ j x - i x ≤ 5 := fun x hx => ⟨(hfm x hx).1, by have := pl hx; omega⟩
  obtain ⟨X', G, e1, qX, g0, lG⟩ := fareC (Z := sNO T 1) (ln := fun x => j x - i x) (jj := xCN (F_X5_seek h (nI a) (nI b) (nI ti) (nI n)) 3) (f := rid (xCN (F_X5_seek h (nI a) (nI b) (nI ti) (nI n)) 5) n) h4 fd (fun f hf => (hpr f hf).1)
    (fun x hx => by
      obtain ⟨q1, q2, q3, q4, q5, q6⟩ := tT.2.2.2.2.2.2.2.2 x hx
      have et : tr (sNO T 1) (rid (xCN (F_X5_seek h (nI a) (nI b) (nI ti) (nI n)) 5) n x) = t x := by
        unfold tr
        rw [nfr 500 (by decide), q1]
        rfl
      rw [et, nfi 802 (by decide), nfi 503 (by decide), nfi 502 (by decide), q3, q4, fi 802 (by decide) (by decide) (by decide)]
      exact ⟨(hfm x hx).2, nI_subC (by have := pl hx; omega)⟩)
    (fun f hf => by
      show xAI T 24 0 f = _ ∧ xAI T 25 0 f = _ ∧ xAI T 26 0 f = _
      rw [ai 24 (by decide) (by decide), ai 25 (by decide) (by decide), ai 26 (by decide) (by decide)]
      exact (hpr f hf).2)
  have bd := QG_bnd fd (fun f hf => (hpr f hf).1) h4 g0 lG n (Nat.le_refl _) (Nat.le_refl _)
  have erT := tT.2.2.2.2.2.2.2.1
  rw [← erT] at e1
  rw [e1] at eF
  dsimp only at eF
  have nb := bookC CT (jr := xCN (F_X5_seek h (nI a) (nI b) (nI ti) (nI n)) 3) (fv := G n) qX
  generalize H_add (F_X0_init X' (xCN T 1) (xCN (F_X5_seek h (nI a) (nI b) (nI ti) (nI n)) 3) (nI (G n)) (xFI X' 905 0)) 12 (xCN T 1) = H at eF nb
  have eN : N_book h (nI a) (nI b) (nI ti) (nI n) = H := by unfold N_book; rw [eF]
  have hcw := nb.cw WT CT (by rw [eLT]; exact c30') hj5 hcj hr5
  have erl := nb.rl
  have ebo := fun {x : Nat} (hx : x ≠ xLS T 12) => nb.old hx
  obtain ⟨⟨r1, r2⟩, ⟨f1, f101, f102, f103⟩, a1, ⟨l1, l2, l3⟩, ⟨le1, le2⟩, cn⟩ := nb
  rw [eLT] at f1 f101 f102 f103 l1 l2 r1 r2 ebo
  have gz : GZ h T := by
    have := (zx_seek h (nI a) (nI b) (nI ti) (nI n)).gz.trans (tell_gz n)
    rw [J1] at this
    exact this
  have LH : LQ H := ⟨hcw.1, hcw.2, by rw [cn 9 (by decide), if_neg (by decide), gz.2.2.2.1 9 (by decide) (by decide)]; exact I1.2.2.1, by rw [cn 16 (by decide), if_neg (by decide), gz.2.2.2.1 16 (by decide) (by decide)]; exact I1.2.2.2⟩
  -- fields of H
  have FH : ∀ f z, f / 100 ≠ 5 → f / 100 ≠ 3 → f ∉ [603, 604, 605, 606, 607] → f ≠ 1200 → (f / 100 ≠ 1 ∨ z ≠ xLS h 12) → xFI H f z = xFI h f z := fun f z a b c e g => by rw [f1 f z g e, fi f a b c]
  have AH' : ∀ s, s ≠ 20 → s ≠ 21 → s ≠ 27 → xAI H s = xAI h s := fun s a b c => by
    funext x y
    rw [a1 s c x y, ai s a b]
  have bjB : bj H (xLS h 12) = xCN (F_X5_seek h (nI a) (nI b) (nI ti) (nI n)) 3 := by unfold bj; rw [r2]; rfl
  have trH : ∀ r, tr H r = tr T r := fun r => by unfold tr; rw [r1 500 r (.inl (by decide))]
  have bkO : ∀ b', b' < xLS h 12 → bj H b' = bj h b' ∧ rls H (bj h b') = rls h (bj h b') ∧ ∀ r, r ∈ rls h (bj h b') → tr H r = tr h r ∧ xFI H 501 r = xFI h 501 r := fun b' hb => by
    obtain ⟨x1, x2, x3⟩ := gr_bk I.W fx.1 (by funext z; exact fx.2.1 501 (by decide) z) hgr hb
    refine ⟨(ebo (by omega)).trans x1, (erl _).trans x2, fun r hr => ⟨(trH r).trans (x3 r hr).1, (f1 501 r (.inl (by decide)) (by decide)).trans (x3 r hr).2⟩⟩
  have e800 : ∀ z, xFI H 800 z = xFI h 800 z := fun z => FH 800 z (by decide) (by decide) (by decide) (by decide) (.inl (by decide))
  have indO : ∀ t' dy b', b' < xLS h 12 → ind H t' dy b' = ind h t' dy b' := fun t' dy b' hb => by
    obtain ⟨x1, x2, x3⟩ := bkO b' hb
    apply ind_eq
    rw [ind_iff, ind_iff, x1, x2, FH 103 b' (by decide) (by decide) (by decide) (by decide) (.inr (by omega))]
    refine and_congr Iff.rfl ⟨?_, ?_⟩
    · rintro ⟨r, g1, g2, g3⟩
      rw [(x3 r g1).1, e800, e800] at g2
      rw [(x3 r g1).2] at g3
      exact ⟨r, g1, g2, g3⟩
    · rintro ⟨r, g1, g2, g3⟩
      exact ⟨r, g1, by rw [(x3 r g1).1, e800, e800]; exact g2, by rw [(x3 r g1).2]; exact g3⟩
  have clO : ∀ t' dy, cl H t' dy (xLS h 12) 0 = cl h t' dy (xLS h 12) 0 := fun t' dy => cl_cg _ _ (fun b' _ hb => indO t' dy b' (by omega))
  have clT : ∀ t' dy, cl T t' dy (xLS h 12) 0 = cl h t' dy (xLS h 12) 0 := fun t' dy => cl_cg _ _ (fun b' _ hb => by
    have hb' : b' < xLS h 12 := by omega
    obtain ⟨x1, x2, x3⟩ := gr_bk I.W fx.1 (by funext z; exact fx.2.1 501 (by decide) z) hgr hb'
    apply ind_eq
    rw [ind_iff, ind_iff, x1, x2, fi 103 (by decide) (by decide) (by decide), fi 800 (by decide) (by decide) (by decide)]
    refine and_congr Iff.rfl ⟨?_, ?_⟩
    · rintro ⟨r, g1, g2, g3⟩
      rw [(x3 r g1).1] at g2
      rw [(x3 r g1).2] at g3
      exact ⟨r, g1, g2, g3⟩
    · rintro ⟨r, g1, g2, g3⟩
      exact ⟨r, g1, by rw [(x3 r g1).1]; exact g2, by rw [(x3 r g1).2]; exact g3⟩)
  -- the new booking's runs
  have mem : ∀ x, x < n → rid (xCN (F_X5_seek h (nI a) (nI b) (nI ti) (nI n)) 5) n x ∈ rls H (bj H (xLS h 12)) := fun x hx => by
    rw [bjB, erl, erT]
    exact List.mem_map.mpr ⟨x, List.mem_range'_1.mpr ⟨Nat.zero_le _, by omega⟩, rfl⟩
  have mem2 : ∀ r, r ∈ rls H (bj H (xLS h 12)) → ∃ x, x < n ∧ r = rid (xCN (F_X5_seek h (nI a) (nI b) (nI ti) (nI n)) 5) n x := fun r hr => by
    rw [bjB, erl, erT] at hr
    obtain ⟨x, -, hx, rfl⟩ := rg_mem n 0 r hr
    exact ⟨x, by omega, rfl⟩
  have run : ∀ x, x < n → tr T (rid (xCN (F_X5_seek h (nI a) (nI b) (nI ti) (nI n)) 5) n x) = t x ∧ xFI T 501 (rid (xCN (F_X5_seek h (nI a) (nI b) (nI ti) (nI n)) 5) n x) = nI (d x) := fun x hx => by
    obtain ⟨q1, q2, q3, q4, q5, q6⟩ := tT.2.2.2.2.2.2.2.2 x hx
    exact ⟨by unfold tr; rw [q1]; rfl, q2⟩
  have n8 : ∀ t', t' < xLS h 11 → xFI H 800 t' = nI t' := fun t' ht => by rw [e800]; exact (htr t' ht).1
  have indN : ∀ t' d', t' < xLS h 11 → d' < 100 → ind H t' (nI d') (xLS h 12) = 1 → ∃ x, x < n ∧ t x = t' ∧ d x = d' := fun t' d' ht hd e => by
    obtain ⟨-, r, g1, g2, g3⟩ := ind_iff.mp e
    obtain ⟨x, hx, rfl⟩ := mem2 r g1
    rw [trH, (run x hx).1, n8 _ (pl hx).1, n8 _ ht] at g2
    rw [f1 501 _ (.inl (by decide)) (by decide), (run x hx).2] at g3
    have p := pl hx
    refine ⟨x, hx, nI_inj (by omega) (by omega) g2, ?_⟩
    rcases g3 with g3 | g3
    · have := congrArg Int32.toInt g3
      rw [nI_toInt (by omega), show (-1 : Int32).toInt = -1 by decide] at this
      omega
    · exact nI_inj (by omega) (by omega) g3
  have free : ∀ t' dy s', xFI h 803 t' = nI s' → s' ≤ 100 → (F_X8_freeSeats H t' dy).toInt = (s' : Int) - ((cl h t' dy (xLS h 12) 0 + ind H t' dy (xLS h 12) : Nat) : Int) := fun t' dy s' hs hk => by
    rw [free_spec (by rw [l2]; omega) (by rw [FH 803 t' (by decide) (by decide) (by decide) (by decide) (.inl (by decide))]; exact hs) hk, l2, cl_last, clO, Nat.zero_add]
  have has := has_all _ cS
  have ok1 : ∀ x, x < n → ∀ s', xFI h 803 (t x) = nI s' → s' ≤ 100 → 1 ≤ (s' : Int) - ((cl h (t x) (nI (d x)) (xLS h 12) 0 : Nat) : Int) := fun x hx s' hs hk => by
    have := has (rid (xCN (F_X5_seek h (nI a) (nI b) (nI ti) (nI n)) 5) n x) (by rw [erT]; exact List.mem_map.mpr ⟨x, List.mem_range'_1.mpr ⟨Nat.zero_le _, by omega⟩, rfl⟩)
    rw [(run x hx).1, (run x hx).2, Int32.le_iff_toInt_le, free_spec (by rw [eLT]; exact h30) (by rw [fi 803 (by decide) (by decide) (by decide)]; exact hs) hk, eLT, clT] at this
    exact this
  have p0 := pl (show 0 < n by omega)
  have ls11 : xLS H 11 = xLS h 11 := l1
  obtain ⟨s0, s1, s2, s3⟩ := (htr (t 0) p0.1).2.2.1
  have ind0 : ind H (t 0) (nI (d 0)) (xLS h 12) = 1 := ind_iff.mpr ⟨by rw [f103]; decide, _, mem 0 (by omega), by rw [trH, (run 0 (by omega)).1], .inr (by rw [f1 501 _ (.inl (by decide)) (by decide), (run 0 (by omega)).2])⟩
  have fr0 := free (t 0) (nI (d 0)) s0 s3 s2
  rw [ind0] at fr0
  have ok0 := ok1 0 (by omega) s0 s3 s2
  have hB : xLS h 12 < xLS H 12 := by rw [l2]; omega
  have vs := v_state hcw.1 hB
  have vH := v_seats hcw.1 (t := t 0) (d := d 0) (by rw [ls11]; exact p0.1) p0.2.1
  have vh := v_seats I.W (t := t 0) (d := d 0) p0.1 p0.2.1
  have e403 : xFI H 403 0 = xFI h 403 0 := FH 403 0 (by decide) (by decide) (by decide) (by decide) (.inl (by decide))
  have bkd : F_X8_isBooked H (t 0) = 1 := by
    rcases bk_cls hcw.1 (t := t 0) (xLS H 12) 0 (2147483648 - 0 + 1) (by omega) (by rw [l2]; omega) with ⟨-, z⟩ | ⟨z, -⟩
    · exact absurd (by rw [trH, (run 0 (by omega)).1]) (z (xLS h 12) (Nat.zero_le _) hB _ (mem 0 (by omega)))
    · exact z
  have eC : F_X8_calls H (nI (t 0)) 0 1 0 = (.inr cy_e2, H) := by
    unfold F_X8_calls
    rw [if_pos (okT_mk hcw.1 (by rw [ls11]; exact p0.1)), if_pos (show okS H 0 from okS_mk (k := 0) (e403.trans q.1.2.1) q.1.1 (by have := q.2.2.2.1; omega)), if_pos (by decide : okR (1 : Int32) 1 300), if_pos (by decide : okR (0 : Int32) 0 60), nI_clamp (show t 0 < 2 ^ 31 by omega), if_neg (c := F_X8_isBooked H (t 0) = 0) (by rw [bkd]; decide), ite_self]
  refine ⟨t 0, d 0, p0.1, p0.2.1, rv.1, rv.2.1, by unfold V_book; rw [eF, eLT]; rfl, c30', by rw [eN]; exact LH, fun D' d2 dz => ?_, ?_, ?_, ?_, ?_, ?_, ?_⟩
  · rw [eN]
    refine ⟨LH, ⟨⟨m, ⟨ms.1, by rw [e403]; exact ms.2.1, fun x hx => ?_⟩, fun t' ht => ?_⟩, ?_, ?_, fun b' hb => ?_⟩, fun t' ht d' hd => ?_, ?_, ?_, ?_, fun t' ht => ?_⟩
    · rw [AH' 22 (by decide) (by decide) (by decide)]
      exact ms.2.2 x hx
    · rw [ls11] at ht
      exact TR.cg (FH 800 t' (by decide) (by decide) (by decide) (by decide) (.inl (by decide))) (FH 802 t' (by decide) (by decide) (by decide) (by decide) (.inl (by decide))) (FH 803 t' (by decide) (by decide) (by decide) (by decide) (.inl (by decide))) (FH 810 t' (by decide) (by decide) (by decide) (by decide) (.inl (by decide))) (FH 811 t' (by decide) (by decide) (by decide) (by decide) (.inl (by decide)))
        (by rw [AH' 28 (by decide) (by decide) (by decide)]) (by rw [AH' 29 (by decide) (by decide) (by decide)]) (by rw [AH' 30 (by decide) (by decide) (by decide)]) (by rw [AH' 32 (by decide) (by decide) (by decide)]) (htr t' ht)
    · unfold RWalk
      rw [AH' 23 (by decide) (by decide) (by decide)]
      exact R2
    · unfold PR
      rw [AH' 24 (by decide) (by decide) (by decide), AH' 25 (by decide) (by decide) (by decide), AH' 26 (by decide) (by decide) (by decide)]
      exact R3
    · rw [l2] at hb
      by_cases cb : b' = xLS h 12
      · rw [cb, f101, nI_toInt (by omega)]
        omega
      · rw [FH 101 b' (by decide) (by decide) (by decide) (by decide) (.inr cb)]
        exact R4 b' (by omega)
    · rw [ls11] at ht
      obtain ⟨k, k1, k2, k3⟩ := (htr t' ht).2.2.1
      rw [free t' (nI d') k k3 k2]
      have z := I3 t' ht d' hd
      rw [free_spec h30 k3 k2] at z
      rcases ind_01 H t' (xLS h 12) (nI d') with w | w
      · rw [w]
        omega
      · obtain ⟨x, hx, rfl, rfl⟩ := indN t' d' ht hd w
        have := ok1 x hx k k3 k2
        rw [w]
        omega
    · rw [dz 0 (by decide), e403]
      exact I4
    · rw [dz 1 (by decide), ls11]
      exact I5
    · rw [d2, l2]
    · rw [ls11] at ht
      rw [dz _ (by omega), dz _ (by omega), FH 803 t' (by decide) (by decide) (by decide) (by decide) (.inl (by decide)), FH 810 t' (by decide) (by decide) (by decide) (by decide) (.inl (by decide))]
      exact I7 t' ht
  · rw [eN, vs.1, f103]
  · rw [eN, vs.2.2]
    unfold F_X0_amount
    rw [f103]
    rfl
  · rw [eN, vH, vh]
    have z := free_spec h30 (t := t 0) (dy := nI (d 0)) s3 s2
    exact sub1_int (by rw [z]; omega) (by rw [fr0, z]; omega)
  · rw [eN, vH, Int32.le_iff_toInt_le, fr0]
    show (0 : Int) ≤ _
    omega
  · rw [eN]
    unfold V_calls
    rw [eC]
    exact e2
  · rw [eN, eC]
