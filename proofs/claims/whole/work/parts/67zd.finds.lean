/-! ===== own: the reference finds a journey ===== -/
theorem z0c : (0 : Int32).toNatClampNeg = 0 := by decide
theorem finds_none {H : Hp} {a b ti : Int32} {n : Nat} (he : F_X9_timeBy (F_X9_reaches H a ti (nI n)) b (nI n) = 100000000) : F_X9_finds H a b ti n = (0, sFI (sFI (F_X9_reaches H a ti (nI n)) 1023 0 (F_X9_timeBy (F_X9_reaches H a ti (nI n)) b (nI n))) 1021 0 0) := by
  unfold F_X9_finds
  rw [fi_eq, if_pos he]
/-- what a journey found tells -/
def Found (h Y : Hp) (n a b ti : Nat) (e : Int32) (at' t d i j : Nat → Nat) : Prop :=
  xFI Y 1021 0 = nI n ∧ xFI Y 1022 0 = nI ti ∧ xFI Y 1023 0 = e ∧ xAI Y 63 0 n = toB h b (at' n) ∧
  ∀ x, x < n → xAI Y 59 0 x = nI (t x) ∧ xAI Y 60 0 x = nI (d x) ∧ xAI Y 61 0 x = nI (i x) ∧ xAI Y 62 0 x = nI (j x) ∧ xAI Y 63 0 x = cgW h a at' t i x
theorem finds_some {h H : Hp} {n0 n a b ti : Nat} {e : Int32} {at' t d i j : Nat → Nat} (W : CW h) (R : RC h) (hs0 : RStop h n0) (w : World h n0) (ha : a < n0) (hb : b < n0) (hti : ti ≤ 140000) (hn : n ≠ 0) (hn4 : n ≤ 4)
    (sm : SearchM h (F_X9_reaches H (nI a) (nI ti) (nI n)) n0 n a ti) (fx : FX [1022] [57, 58] H (F_X9_reaches H (nI a) (nI ti) (nI n))) (e22 : xFI (F_X9_reaches H (nI a) (nI ti) (nI n)) 1022 0 = nI ti)
    (he : F_X9_timeBy (F_X9_reaches H (nI a) (nI ti) (nI n)) (nI b) (nI n) = e) (he1 : e.toInt ≤ 400000)
    (wy : Way h n0 (Rm (F_X9_reaches H (nI a) (nI ti) (nI n))) (Em (F_X9_reaches H (nI a) (nI ti) (nI n))) (ti / 1440 - 1) (ti / 1440 + 1) b n e.toInt at' t d i j)
    (hE : ∀ k, k ≠ 0 → k ≤ n → ∀ s, s < n0 → 0 ≤ Em (F_X9_reaches H (nI a) (nI ti) (nI n)) k s ∧ Em (F_X9_reaches H (nI a) (nI ti) (nI n)) k s ≤ 100000000) :
    ∃ Y, F_X9_finds H (nI a) (nI b) (nI ti) n = (1, Y) ∧ FX [1021, 1022, 1023] [57, 58, 59, 60, 61, 62, 63] H Y ∧ Found h Y n a b ti e at' t d i j := by
  have h10 := w.1
  have smS := small_of R hs0
  obtain ⟨ma, r0, -⟩ := sm
  unfold F_X9_finds
  generalize F_X9_reaches H (nI a) (nI ti) (nI n) = HM at ma r0 fx e22 he wy hE
  rw [he, fi_eq, if_neg (fun z => by
    rw [z, N8] at he1
    omega), ai_ne (by decide), fi_ai, fi_ne (k := 1021) (by decide), fi_eq, xi10, nI_clamp (show 10 * n + b < 2 ^ 31 by omega), nI_clamp (show n < 2 ^ 31 by omega)]
  have z0 : (0 : Int32).toInt = 0 := by decide
  have etb : toB h b b = 0 := by unfold toB; rw [if_pos rfl]
  generalize hY0 : sAI (sFI (sFI HM 1023 0 e) 1021 0 (nI n)) 63 0 n 0 = Y0
  have q0 : FX [1021, 1023] [63] HM Y0 := by
    rw [← hY0]
    exact ((FX.sfi (by decide)).trans (FX.sfi (by decide))).trans (FX.sai (by decide))
  have mY : MA h Y0 := ma.fx q0 (by decide) (by decide)
  have e21 : xFI Y0 1021 0 = nI n := by rw [← hY0, fi_ai, fi_eq]
  have e23 : xFI Y0 1023 0 = e := by rw [← hY0, fi_ai, fi_ne (by decide), fi_eq]
  have e63 : xAI Y0 63 0 n = 0 := by rw [← hY0, ai_eq]
  have eE : ∀ k, Em Y0 k = Em HM k := fun k => by funext s; unfold Em; rw [q0.2.2 57 (by decide)]
  have eR : ∀ k, Rm Y0 k = Rm HM k := fun k => by funext s; unfold Rm; rw [q0.2.2 58 (by decide)]
  have c0 : xAI (sFI (sFI HM 1023 0 e) 1021 0 (nI n)) 57 0 (10 * n + b) = e ↔ OKE h (Em HM n) b e.toInt b := by
    unfold OKE
    rw [etb, z0, Int.add_zero]
    exact ⟨fun z => ⟨by decide, congrArg Int32.toInt z⟩, fun z => Int32.toInt_inj.mp z.2⟩
  -- the last stop, then the rides
  have rides : ∀ (Y1 : Hp), FX [] [63] Y0 Y1 → xAI Y1 63 0 n = toB h b (at' n) → ∃ Y, K_X9_finds_163 H (nI a) (nI b) (nI ti) n Y1 (nI (at' n)) = (1, Y) ∧ FX [1021, 1022, 1023] [57, 58, 59, 60, 61, 62, 63] H Y ∧ Found h Y n a b ti e at' t d i j := by
    intro Y1 q1 w63
    have eE1 : Em Y1 = Em HM := by funext k; rw [← eE k]; funext s; unfold Em; rw [q1.2.2 57 (by decide)]
    have eR1 : Rm Y1 = Rm HM := by funext k; rw [← eR k]; funext s; unfold Rm; rw [q1.2.2 58 (by decide)]
    have mY1 : MA h Y1 := mY.fx q1 (by decide) (by decide)
    obtain ⟨Y', s', ey, qy, qn, qx⟩ := told_loopM (h := h) (Y0 := Y1) (X0 := H) (n := n) (a := a) (b := b) (ti := ti) (e := e.toInt) (xa := nI a) (xb := nI b) (xt := nI ti) (at' := at') (t := t) (d := d) (i := i) (j := j) W R hs0 w mY1 hti ((q1.2.1 1022 (by decide) 0).trans ((q0.2.1 1022 (by decide) 0).trans e22)) hn4 (by rw [eE1, eR1]; exact wy) (by rw [eE1]; exact hE) (K_X9_finds_167 H (nI a) (nI b) (nI ti) n) n Y1 (nI (at' n)) (Nat.le_refl _) (fun _ => rfl) ⟨FX.rf, fun _ _ => rfl, fun x hx hxn => by omega⟩
    unfold K_X9_finds_163
    rw [ey]
    unfold K_X9_finds_167
    obtain ⟨f, -⟩ := wy.2 0 (by omega)
    have f0 := f
    obtain ⟨f1, f2, f3, f4, -⟩ := f0
    have hst := (w.2.2.2 (t 0) f1).2.2.2.1
    have hi : i 0 < lnN h (t 0) := by
      have := f4.2.1
      have := f4.2.2.1
      omega
    have hb2 := (hst (i 0) hi).2
    have hdp := (((w.2.2.2 (t 0) f1).2.2.2.2 (d 0) (by omega) f4.1).1 (i 0) hi).2
    have h20 := w.2.2.1
    have hl6 := (w.2.2.2 (t 0) f1).2.1
    obtain ⟨x1, x2, x3, x4, -⟩ := qx 0 (Nat.le_refl _) (by omega)
    have mY' := mY1.w qy
    obtain ⟨-, s47⟩ := mtrip W R mY' f1
    have c63 : (if xAI Y' 47 0 ((6 * xAI Y' 59 0 (0 : Int32).toNatClampNeg) + xAI Y' 61 0 (0 : Int32).toNatClampNeg).toNatClampNeg = nI a then 0 else xAI Y' 41 0 ((10 * nI a) + xAI Y' 47 0 ((6 * xAI Y' 59 0 (0 : Int32).toNatClampNeg) + xAI Y' 61 0 (0 : Int32).toNatClampNeg).toNatClampNeg).toNatClampNeg) = cgW h a at' t i 0 := by
      rw [z0c, x1, x3, xi6, nI_clamp (show 6 * t 0 + i 0 < 2 ^ 31 by omega), s47 (i 0) hi, xi10, nI_clamp (by omega), mY'.2 41 (by decide)]
      unfold cgW
      rw [if_pos (c := (0 : Nat) = 0) rfl]
      by_cases e1 : a = stN h (t 0) (i 0)
      · rw [if_pos e1, if_pos (by rw [← e1])]
      · rw [if_neg e1, if_neg (fun z => e1 (nI_inj (by omega) (by omega) z).symm)]
        have ec : chI h a (stN h (t 0) (i 0)) = xAI h 23 0 (10 * a + stN h (t 0) (i 0)) := by unfold chI; rw [if_neg e1]
        rw [ec]
        rcases R.2.1.1 a (stN h (t 0) (i 0)) (by omega) (by omega) with ⟨u1, u2⟩ | ⟨w', u1, u2, -⟩
        · have hR := f4.2.2.2.2.2
          rcases r0 _ hb2 with ⟨v1, -⟩ | ⟨v1, -⟩
          · omega
          · rcases v1 with ⟨y, _⟩ | ⟨_, y, _⟩
            · exact absurd y.symm e1
            · exact absurd u1 y
        · rw [u1, u2]
    rw [c63, z0c]
    have qt : FX [1021, 1022, 1023] [57, 58, 59, 60, 61, 62, 63] H Y' := (((fx.mono (by decide) (by decide)).trans (q0.mono (by decide) (by decide))).trans (q1.mono (by decide) (by decide))).trans (qy.mono (by decide) (by decide))
    have up : ∀ f, xFI Y' f 0 = xFI Y0 f 0 := fun f => (qy.2.1 f (by simp) 0).trans (q1.2.1 f (by simp) 0)
    refine ⟨_, rfl, qt.trans (FX.sai (by decide)), (fi_ai _ _ _ _ _ _ _).trans ((up 1021).trans e21), (fi_ai _ _ _ _ _ _ _).trans ((up 1022).trans ((q0.2.1 1022 (by decide) 0).trans e22)), (fi_ai _ _ _ _ _ _ _).trans ((up 1023).trans e23), ?_, fun x hx => ?_⟩
    · rw [ai_nj hn, qn n (Nat.le_refl _)]
      exact w63
    · obtain ⟨b1, b2, b3, b4, b5⟩ := qx x (Nat.zero_le _) hx
      rw [ai_ne (by decide), ai_ne (by decide), ai_ne (by decide), ai_ne (by decide)]
      refine ⟨b1, b2, b3, b4, ?_⟩
      by_cases ex : x = 0
      · subst ex
        exact ai_eq
      · rw [ai_nj ex]
        exact b5 ex
  by_cases c : OKE h (Em HM n) b e.toInt b
  · rw [if_pos (c0.mpr c)]
    have eb : at' n = b := by
      rcases wy.1.2.2 with z | ⟨z, _⟩
      · exact z
      · exact absurd c z
    have := rides Y0 FX.rf (by rw [eb, etb]; exact e63)
    rw [eb] at this
    exact this
  · rw [if_neg (fun z => c (c0.mp z))]
    obtain ⟨Y1, e1, p1, p2, -⟩ := lastM_spec (X := H) (a := a) (ti := ti) (K_X9_finds_163 H (nI a) (nI b) (nI ti) n) R hs0 mY (show n < 5 by omega) hb e23 (fun x hx => by rw [eE]; exact hE n hn (Nat.le_refl _) x hx) (by rw [eE]; exact c) (by rw [eE]; exact wy.1)
    rw [e1]
    exact rides Y1 p1 p2
