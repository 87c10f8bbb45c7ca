/-! ===== own: trying anew (out of whole) ===== -/
def LW (L L' : Int) (Q : Int → Prop) : Prop := L' ≤ L ∧ (L' = L ∨ Q L') ∧ ∀ v, Q v → L' ≤ v
theorem LW.rf {L : Int} {Q : Int → Prop} (h : ∀ v, Q v → L ≤ v) : LW L L Q := ⟨Int.le_refl _, .inl rfl, h⟩
theorem LW.trans {A B C : Int} {Q R S : Int → Prop} (x : LW A B Q) (y : LW B C R) (h : ∀ v, S v ↔ (Q v ∨ R v)) : LW A C S := by
  obtain ⟨x1, x2, x3⟩ := x
  obtain ⟨y1, y2, y3⟩ := y
  refine ⟨by omega, ?_, fun v q => ?_⟩
  · rcases y2 with e | q
    · rcases x2 with e' | q'
      · exact .inl (e.trans e')
      · rw [e]
        exact .inr ((h _).mpr (.inl q'))
    · exact .inr ((h _).mpr (.inr q))
  · rcases (h v).mp q with z | z
    · have := x3 v z
      omega
    · exact y3 v z
theorem LW.skip {A B : Int} {Q S : Int → Prop} (x : LW A B Q) (h : ∀ v, S v → Q v ∨ B ≤ v) (h2 : ∀ v, Q v → S v) : LW A B S := by
  obtain ⟨x1, x2, x3⟩ := x
  refine ⟨x1, x2.imp id (h2 _), fun v q => ?_⟩
  rcases h v q with z | z
  · exact x3 v z
  · exact z
theorem LW.same {A B : Int} {Q S : Int → Prop} (x : LW A B Q) (h : ∀ v, S v ↔ Q v) : LW A B S := x.skip (fun v q => .inl ((h v).mp q)) (fun v q => (h v).mpr q)
theorem dp_mono {h : Hp} {n0 t d : Nat} (w : World h n0) (ht : t < xLS h 11) (hd : d < 100) (hg : goN h t d) : ∀ j i, i ≤ j → j < lnN h t → dpI h t d i ≤ dpI h t d j := by
  intro j
  induction j with
  | zero =>
    intro i hi _
    obtain rfl : i = 0 := by omega
    exact Int.le_refl _
  | succ j ih =>
    intro i hi hj
    by_cases c : i = j + 1
    · subst c
      exact Int.le_refl _
    · have h1 := ih i (by omega) (by omega)
      have h2 := ((w.2.2.2 t ht).2.2.2.2 d hd hg).2 (j + 1) hj (by omega)
      rw [Nat.add_sub_cancel] at h2
      omega
theorem dp_ar {h : Hp} {n0 t d i j : Nat} (w : World h n0) (ht : t < xLS h 11) (hd : d < 100) (hg : goN h t d) (hi : i < j) (hj : j < lnN h t) : dpI h t d i < arI h t d j := by
  have h1 := dp_mono w ht hd hg (j - 1) i (by omega) (by omega)
  have h2 := ((w.2.2.2 t ht).2.2.2.2 d hd hg).2 j hj (by omega)
  omega
theorem ar_upto {h : Hp} {n0 t d i j : Nat} (w : World h n0) (ht : t < xLS h 11) (hd : d < 100) (hg : goN h t d) (h0 : i ≠ 0) (hi : i ≤ j) (hj : j < lnN h t) : arI h t d i ≤ arI h t d j := by
  by_cases c : i = j
  · subst c
    exact Int.le_refl _
  · have h1 := dp_ar w ht hd hg (show i < j by omega) hj
    have h2 := ((w.2.2.2 t ht).2.2.2.2 d hd hg).2 i (by omega) h0
    omega
def CHI (h : Hp) (s : Nat) (tf : Int32) (x : Nat) : Int32 := if x = s then tf else xAI h 23 0 (10 * s + x)
def OKB (h : Hp) (s : Nat) (ti : Int) (tf : Int32) (t d i : Nat) : Prop := ¬ CHI h s tf (stN h t i) = -1 ∧ ti + (CHI h s tf (stN h t i)).toInt ≤ dpI h t d i
def TS (h X : Hp) (b fd ld : Nat) : Prop := FX [701, 702, 703, 704] ss2 h X ∧ xFI X 701 0 = nI b ∧ xFI X 702 0 = nI fd ∧ xFI X 703 0 = nI ld ∧ 0 ≤ (xFI X 704 0).toInt ∧ (xFI X 704 0).toInt ≤ 1000000000
theorem CHI.sm {h : Hp} {n0 s x : Nat} {tf : Int32} (sm : Small h n0) (hs : s < n0) (hx : x < n0) (h0 : 0 ≤ tf.toInt ∧ tf.toInt ≤ 200) : CHI h s tf x = -1 ∨ (0 ≤ (CHI h s tf x).toInt ∧ (CHI h s tf x).toInt ≤ 200) := by
  unfold CHI
  by_cases c : x = s
  · rw [if_pos c]
    exact .inr h0
  · rw [if_neg c]
    have := sm s x hs hx
    unfold chI at this
    rwa [if_neg (fun z => c z.symm)] at this
def K1 (h : Hp) (b s : Nat) (tm : Int) (v : Int) : Prop := ¬ toB h b s = -1 ∧ v = tm + (toB h b s).toInt
theorem leave1 {h X : Hp} {n0 b fd ld s : Nat} {tm : Int32} (sm : Small h n0) (h10 : n0 ≤ 10) (hb : b < n0) (hs : s < n0) (q : TS h X b fd ld) (h0 : 0 ≤ tm.toInt ∧ tm.toInt ≤ 200000) :
    TS h (F_X6_leaveAt0 X (nI s) tm) b fd ld ∧ LW (xFI X 704 0).toInt (xFI (F_X6_leaveAt0 X (nI s) tm) 704 0).toInt (K1 h b s tm.toInt) := by
  obtain ⟨q1, q2, q3, q4, q5, q6⟩ := q
  have eW : (if nI s = xFI X 701 0 then 0 else F_X3_walk X (nI s) (xFI X 701 0)) = toB h b s := by
    rw [q2]
    unfold toB
    by_cases c : s = b
    · rw [if_pos c, if_pos (by rw [c])]
    · rw [if_neg c, if_neg (fun z => c (nI_inj (by omega) (by omega) z)), wk_fx q1]
      unfold F_X3_walk
      rw [ix10, at_in h (n := 100) (by decide) rfl (by omega) (by decide)]
  unfold F_X6_leaveAt0
  rw [eW]
  by_cases c : toB h b s = -1
  · rw [if_pos c]
    exact ⟨⟨q1, q2, q3, q4, q5, q6⟩, LW.rf (fun v z => absurd c z.1)⟩
  · rw [if_neg c]
    have b1 := (toB_sm sm hb hs).resolve_left c
    have e1 : (tm + toB h b s).toInt = tm.toInt + (toB h b s).toInt := add_int (by omega) (by omega)
    have e2 := min_int (tm + toB h b s) (xFI X 704 0)
    rw [e1] at e2
    refine ⟨⟨q1.trans (FX.sfi (by decide)), (fi_ne (by decide)).trans q2, (fi_ne (by decide)).trans q3, (fi_ne (by decide)).trans q4, ?_, ?_⟩, ?_⟩
    · rw [fi_eq, e2]
      omega
    · rw [fi_eq, e2]
      omega
    · rw [fi_eq, e2]
      refine ⟨by omega, ?_, fun v z => ?_⟩
      · by_cases y : (xFI X 704 0).toInt ≤ tm.toInt + (toB h b s).toInt
        · exact .inl (by omega)
        · exact .inr ⟨c, by omega⟩
      · have := z.2
        omega
theorem kge1 {h : Hp} {n0 b s : Nat} {tm v : Int} (sm : Small h n0) (hb : b < n0) (hs : s < n0) (q : K1 h b s tm v) : tm ≤ v := by
  have := (toB_sm sm hb hs).resolve_left q.1
  have := q.2
  omega
def Er1 (h : Hp) (b fd ld s : Nat) (ti : Int) (tf : Int32) (t d q : Nat) (v : Int) : Prop := ∃ i j, i < j ∧ j < q ∧ OKB h s ti tf t d i ∧ K1 h b (stN h t j) (arI h t d j) v
def E1 (h : Hp) (b fd ld s : Nat) (ti : Int) (tf : Int32) (v : Int) : Prop := ∃ t d, t < xLS h 11 ∧ fd ≤ d ∧ d ≤ ld ∧ goN h t d ∧ Er1 h b fd ld s ti tf t d (lnN h t) v
theorem tryRun1_spec {h X : Hp} {n0 b fd ld s t d : Nat} {ti tf : Int32} (w : World h n0) (sm : Small h n0) (hb : b < n0) (hld : ld < 100) (hs : s < n0) (h0 : 0 ≤ ti.toInt ∧ ti.toInt ≤ 200000) (hf0 : 0 ≤ tf.toInt ∧ tf.toInt ≤ 200) (ht : t < xLS h 11) (hd : d < 100) (hg : goN h t d) (q : TS h X b fd ld) :
    TS h (F_X6_tryRun1 X t (nI d) (nI s) ti tf) b fd ld ∧ LW (xFI X 704 0).toInt (xFI (F_X6_tryRun1 X t (nI d) (nI s) ti tf) 704 0).toInt (Er1 h b fd ld s ti.toInt tf t d (lnN h t)) := by
  have h10 := w.1
  obtain ⟨wl1, wl6, wl, wst, wdp⟩ := w.2.2.2 t ht
  have wdp := wdp d hd hg
  have key : ∀ (m p fu : Nat) (Y : Hp) (ab : Int32), p + m = lnN h t → m < fu → TS h Y b fd ld → ((ab = 0 ∧ ∀ i, i < p → ¬ OKB h s ti.toInt tf t d i) ∨ (¬ ab = 0 ∧ ∃ i, i < p ∧ OKB h s ti.toInt tf t d i)) → LW (xFI X 704 0).toInt (xFI Y 704 0).toInt (Er1 h b fd ld s ti.toInt tf t d p) →
      TS h (L_X6_tryRun1_6 X t (nI d) (nI s) ti tf fu Y ab p) b fd ld ∧ LW (xFI X 704 0).toInt (xFI (L_X6_tryRun1_6 X t (nI d) (nI s) ti tf fu Y ab p) 704 0).toInt (Er1 h b fd ld s ti.toInt tf t d (lnN h t)) := by
    intro m
    induction m with
    | zero =>
      intro p fu Y ab hp hf y f l
      obtain ⟨fu, rfl⟩ : ∃ g, fu = g + 1 := ⟨fu - 1, by omega⟩
      obtain rfl : p = lnN h t := by omega
      rw [L_X6_tryRun1_6_s]
      unfold B_X6_tryRun1_6
      rw [y.1.2.1 810 (by decide), wl, if_pos (Int32.le_refl _)]
      exact ⟨y, l⟩
    | succ m ih =>
      intro p fu Y ab hp hf y f l
      obtain ⟨fu, rfl⟩ : ∃ g, fu = g + 1 := ⟨fu - 1, by omega⟩
      have hpl : p < lnN h t := by omega
      obtain ⟨es, hx⟩ := wst p hpl
      rw [L_X6_tryRun1_6_s]
      unfold B_X6_tryRun1_6
      have hnp : ¬ nI (lnN h t) ≤ nI p := fun z => by
        have := (nI_leI (by omega) (by omega)).mp z
        omega
      rw [y.1.2.1 810 (by decide), wl, if_neg hnp, so_fx y.1, es, wk_fx y.1, lv_fx y.1, re_fx y.1]
      rcases f with ⟨rfl, f⟩ | ⟨f0, i0, i1, i2⟩
      · rw [if_pos rfl]
        have eC : (if nI (stN h t p) = nI s then tf else F_X3_walk h (nI s) (nI (stN h t p))) = CHI h s tf (stN h t p) := by
          unfold CHI
          by_cases c : stN h t p = s
          · rw [if_pos c, if_pos (by rw [c])]
          · rw [if_neg c, if_neg (fun z => c (nI_inj (by omega) (by omega) z))]
            unfold F_X3_walk
            rw [ix10, at_in h (n := 100) (by decide) rfl (by omega) (by decide)]
        rw [eC]
        have l2 : LW (xFI X 704 0).toInt (xFI Y 704 0).toInt (Er1 h b fd ld s ti.toInt tf t d (p + 1)) := l.same (fun v => by
          constructor
          · rintro ⟨i, j, a1, a2, a3, a4⟩
            exact absurd a3 (f i (by omega))
          · rintro ⟨i, j, a1, a2, a3, a4⟩
            exact absurd a3 (f i (by omega)))
        by_cases c1 : CHI h s tf (stN h t p) = -1
        · rw [if_pos c1]
          refine ih (p + 1) fu Y 0 (by omega) (by omega) y (.inl ⟨rfl, fun i hi z => ?_⟩) l2
          by_cases e : i = p
          · subst e
            exact z.1 c1
          · exact f i (by omega) z
        · have b1 := (CHI.sm sm hs hx hf0).resolve_left c1
          have e1 : (ti + CHI h s tf (stN h t p)).toInt = ti.toInt + (CHI h s tf (stN h t p)).toInt := add_int (by omega) (by omega)
          have iff : F_X7_leaves h t (nI d) (nI p) < ti + CHI h s tf (stN h t p) ↔ ¬ ti.toInt + (CHI h s tf (stN h t p)).toInt ≤ dpI h t d p := by
            rw [Int32.lt_iff_toInt_lt, e1]
            unfold dpI
            omega
          rw [if_neg c1]
          by_cases c2 : F_X7_leaves h t (nI d) (nI p) < ti + CHI h s tf (stN h t p)
          · rw [if_pos c2]
            refine ih (p + 1) fu Y 0 (by omega) (by omega) y (.inl ⟨rfl, fun i hi z => ?_⟩) l2
            by_cases e : i = p
            · subst e
              exact iff.mp c2 z.2
            · exact f i (by omega) z
          · rw [if_neg c2]
            refine ih (p + 1) fu Y 1 (by omega) (by omega) y (.inr ⟨by decide, p, by omega, c1, ?_⟩) l2
            exact Decidable.not_not.mp (fun z => c2 (iff.mpr z))
      · rw [if_neg f0]
        have h0p : p ≠ 0 := by omega
        have ha := wdp.2 p hpl h0p
        obtain ⟨y2, l2⟩ := leave1 sm h10 hb hx y (tm := F_X7_reaches h t (nI d) (nI p)) ⟨ha.1, ha.2.1⟩
        refine ih (p + 1) fu _ ab (by omega) (by omega) y2 (.inr ⟨f0, i0, by omega, i2⟩) (l.trans l2 (fun v => ?_))
        constructor
        · rintro ⟨i, j, a1, a2, a3, a4⟩
          by_cases e : j = p
          · subst e
            exact .inr a4
          · exact .inl ⟨i, j, a1, by omega, a3, a4⟩
        · rintro (⟨i, j, a1, a2, a3, a4⟩ | a4)
          · exact ⟨i, j, a1, by omega, a3, a4⟩
          · exact ⟨i0, p, i1, by omega, i2, a4⟩
  unfold F_X6_tryRun1
  exact key (lnN h t) 0 _ X 0 (by omega) (by omega) q (.inl ⟨rfl, fun i hi => absurd hi (Nat.not_lt_zero _)⟩) (LW.rf (fun v z => by
    obtain ⟨i, j, a1, a2, _⟩ := z
    omega))
theorem goOn1_spec {h X : Hp} {n0 b fd ld s : Nat} {ti tf : Int32} (w : World h n0) (sm : Small h n0) (hb : b < n0) (hld : ld < 100) (hs : s < n0) (h0 : 0 ≤ ti.toInt ∧ ti.toInt ≤ 200000) (hf0 : 0 ≤ tf.toInt ∧ tf.toInt ≤ 200) (hfd : fd ≤ 1000) (q : TS h X b fd ld) :
    TS h (F_X6_goOn1 X (nI s) ti tf) b fd ld ∧ LW (xFI X 704 0).toInt (xFI (F_X6_goOn1 X (nI s) ti tf) 704 0).toInt (E1 h b fd ld s ti.toInt tf) := by
  have h10 := w.1
  have h20 := w.2.2.1
  let QD : Nat → Nat → Int → Prop := fun d0 q v => ∃ t d, t < xLS h 11 ∧ goN h t d ∧ ((fd ≤ d ∧ d < d0) ∨ (d = d0 ∧ t < q)) ∧ Er1 h b fd ld s ti.toInt tf t d (lnN h t) v
  have days : ∀ (mm dy fu : Nat) (Y : Hp), dy + mm = ld + 1 → fd ≤ dy → mm < fu → TS h Y b fd ld → LW (xFI X 704 0).toInt (xFI Y 704 0).toInt (QD dy 0) →
      TS h (L_X6_goOn1_19 X (nI s) ti tf fu Y (nI dy)) b fd ld ∧ LW (xFI X 704 0).toInt (xFI (L_X6_goOn1_19 X (nI s) ti tf fu Y (nI dy)) 704 0).toInt (E1 h b fd ld s ti.toInt tf) := by
    intro mm
    induction mm with
    | zero =>
      intro dy fu Y hdy hfy hf y l
      obtain ⟨fu, rfl⟩ : ∃ g, fu = g + 1 := ⟨fu - 1, by omega⟩
      rw [L_X6_goOn1_19_s]
      unfold B_X6_goOn1_19
      rw [y.2.2.2.1, if_pos ((nI_ltI (by omega) (by omega)).mpr (by omega))]
      refine ⟨y, l.same (fun v => ?_)⟩
      constructor
      · rintro ⟨t, d, a1, a2, a3, a4, a5⟩
        exact ⟨t, d, a1, a4, .inl ⟨a2, by omega⟩, a5⟩
      · rintro ⟨t, d, a1, a2, a3 | a3, a4⟩
        · exact ⟨t, d, a1, a3.1, by omega, a2, a4⟩
        · omega
    | succ mm ihd =>
      intro dy fu Y hdy hfy hf y l
      obtain ⟨fu, rfl⟩ : ∃ g, fu = g + 1 := ⟨fu - 1, by omega⟩
      have hd : dy < 100 := by omega
      rw [L_X6_goOn1_19_s]
      unfold B_X6_goOn1_19
      rw [y.2.2.2.1, if_neg (fun z => by
        have := (nI_ltI (by omega) (by omega)).mp z
        omega), if_neg (c := (100 : Int32) ≤ nI dy) (fun z => by
        have := (nI_leI (a := 100) (b := dy) (by decide) (by omega)).mp z
        omega)]
      have trips : ∀ (m i f : Nat) (Z : Hp), i + m = xLS h 11 → m < f → TS h Z b fd ld → LW (xFI X 704 0).toInt (xFI Z 704 0).toInt (QD dy i) →
          TS h (L_X6_goOn1_38 X (nI s) ti tf Y (nI dy) (L_X6_goOn1_19 X (nI s) ti tf fu) (K_X6_goOn1_38 X (nI s) ti tf Y (nI dy) (L_X6_goOn1_19 X (nI s) ti tf fu)) f Z i) b fd ld ∧
          LW (xFI X 704 0).toInt (xFI (L_X6_goOn1_38 X (nI s) ti tf Y (nI dy) (L_X6_goOn1_19 X (nI s) ti tf fu) (K_X6_goOn1_38 X (nI s) ti tf Y (nI dy) (L_X6_goOn1_19 X (nI s) ti tf fu)) f Z i) 704 0).toInt (E1 h b fd ld s ti.toInt tf) := by
        intro m
        induction m with
        | zero =>
          intro i f Z hi hf2 z l2
          obtain ⟨f, rfl⟩ : ∃ g, f = g + 1 := ⟨f - 1, by omega⟩
          obtain rfl : i = xLS h 11 := by omega
          rw [L_X6_goOn1_38_s]
          unfold B_X6_goOn1_38
          rw [ls_fx z.1, if_pos (Int32.le_refl _)]
          unfold K_X6_goOn1_38
          rw [nI_1]
          refine ihd (dy + 1) fu Z (by omega) (by omega) (by omega) z (l2.same (fun v => ?_))
          constructor
          · rintro ⟨t, d, a1, a2, a3, a4⟩
            refine ⟨t, d, a1, a2, ?_, a4⟩
            omega
          · rintro ⟨t, d, a1, a2, a3, a4⟩
            refine ⟨t, d, a1, a2, ?_, a4⟩
            omega
        | succ m ih =>
          intro i f Z hi hf2 z l2
          obtain ⟨f, rfl⟩ : ∃ g, f = g + 1 := ⟨f - 1, by omega⟩
          have ht : i < xLS h 11 := by omega
          obtain ⟨wl1, wl6, wl, wst, wdp⟩ := w.2.2.2 i ht
          have hni : ¬ nI (xLS h 11) ≤ nI i := fun y => by
            have := (nI_leI (by omega) (by omega)).mp y
            omega
          rw [L_X6_goOn1_38_s]
          unfold B_X6_goOn1_38
          rw [ls_fx z.1, if_neg hni, go_fx z.1, lv_fx z.1, re_fx z.1, z.1.2.1 810 (by decide), wl]
          -- a run that is left out
          have skip : (goN h i dy → ∀ v, Er1 h b fd ld s ti.toInt tf i dy (lnN h i) v → (xFI Z 704 0).toInt ≤ v) → LW (xFI X 704 0).toInt (xFI Z 704 0).toInt (QD dy (i + 1)) := fun hz => l2.skip (fun v => by
            rintro ⟨t, d, a1, a2, a3, a4⟩
            by_cases e : d = dy ∧ t = i
            · obtain ⟨rfl, rfl⟩ := e
              exact .inr (hz a2 v a4)
            · exact .inl ⟨t, d, a1, a2, by omega, a4⟩) (fun v => by
            rintro ⟨t, d, a1, a2, a3, a4⟩
            exact ⟨t, d, a1, a2, by omega, a4⟩)
          by_cases c0 : F_X7_goes h i (nI dy) = 0
          · rw [if_pos c0]
            exact ih (i + 1) f Z (by omega) (by omega) z (skip (fun hg => absurd c0 hg))
          · have hg : goN h i dy := c0
            have wdp := wdp dy hd hg
            rw [if_neg c0]
            by_cases c1 : xFI Z 704 0 ≤ F_X7_leaves h i (nI dy) 0
            · rw [if_pos c1]
              refine ih (i + 1) f Z (by omega) (by omega) z (skip (fun _ v => ?_))
              rintro ⟨x, j, a1, a2, a3, a4⟩
              rw [Int32.le_iff_toInt_le] at c1
              have u0 : (F_X7_leaves h i (nI dy) 0).toInt = dpI h i dy 0 := rfl
              have u1 := dp_ar w ht hd hg (show 0 < j by omega) a2
              have u2 := kge1 sm hb ((wst j a2).2) a4
              omega
            · rw [if_neg c1]
              by_cases c2 : F_X7_reaches h i (nI dy) (nI (lnN h i) - 1) ≤ ti
              · rw [if_pos c2]
                refine ih (i + 1) f Z (by omega) (by omega) z (skip (fun _ v => ?_))
                rintro ⟨x, j, a1, a2, a3, a4⟩
                exfalso
                obtain ⟨c, hc⟩ : ∃ c, lnN h i = c + 1 := ⟨lnN h i - 1, by omega⟩
                rw [hc, nI_m1, Int32.le_iff_toInt_le] at c2
                have u0 : (F_X7_reaches h i (nI dy) (nI c)).toInt = arI h i dy c := rfl
                have u1 := dp_ar w ht hd hg a1 a2
                have u2 := ar_upto w ht hd hg (show j ≠ 0 by omega) (show j ≤ c by omega) (show c < lnN h i by omega)
                have u3 := a3.2
                have u4 := (CHI.sm sm hs (wst x (by omega)).2 hf0).resolve_left a3.1
                omega
              · rw [if_neg c2]
                obtain ⟨z2, l3⟩ := tryRun1_spec w sm hb hld hs h0 hf0 ht hd hg z
                refine ih (i + 1) f _ (by omega) (by omega) z2 (l2.trans l3 (fun v => ?_))
                constructor
                · rintro ⟨t, d, a1, a2, a3, a4⟩
                  by_cases e : d = dy ∧ t = i
                  · obtain ⟨rfl, rfl⟩ := e
                    exact .inr a4
                  · exact .inl ⟨t, d, a1, a2, by omega, a4⟩
                · rintro (⟨t, d, a1, a2, a3, a4⟩ | a4)
                  · exact ⟨t, d, a1, a2, by omega, a4⟩
                  · exact ⟨i, dy, ht, hg, .inr ⟨rfl, by omega⟩, a4⟩
      exact trips (xLS h 11) 0 _ Y (by omega) (by omega) y l
  unfold F_X6_goOn1
  rw [q.2.2.1, nI_toInt (show fd < 2 ^ 31 by omega)]
  by_cases c : fd ≤ ld + 1
  · exact days (ld + 1 - fd) fd _ X (by omega) (Nat.le_refl _) (by omega) q (LW.rf (fun v z => by
      obtain ⟨t, d, a1, a2, a3, a4⟩ := z
      omega))
  · obtain ⟨f, hf⟩ : ∃ g, (2147483647 - (fd : Int)).toNat + 1 = g + 1 := ⟨_, rfl⟩
    rw [hf, L_X6_goOn1_19_s]
    unfold B_X6_goOn1_19
    rw [q.2.2.2.1, if_pos ((nI_ltI (by omega) (by omega)).mpr (by omega))]
    exact ⟨q, LW.rf (fun v z => by
      obtain ⟨t, d, a1, a2, a3, a4, a5⟩ := z
      omega)⟩
def K2 (h : Hp) (b fd ld s : Nat) (tm : Int) (v : Int) : Prop := E1 h b fd ld s tm (xAI h 22 0 s) v
theorem kge2 {h : Hp} {n0 b fd ld s : Nat} {tm v : Int} (w : World h n0) (sm : Small h n0) (hb : b < n0) (hld : ld < 100) (hs : s < n0) (q : K2 h b fd ld s tm v) : tm ≤ v := by
  obtain ⟨t, d, a1, a2, a3, hg, i, j, a4, a5, a6, a7⟩ := q
  obtain ⟨wl1, wl6, wl, wst, wdp⟩ := w.2.2.2 t a1
  have tr := sm s s hs hs
  unfold chI at tr
  rw [if_pos rfl] at tr
  have u1 := dp_ar w a1 (by omega) hg a4 a5
  have u2 := kge1 sm hb (wst j a5).2 a7
  have u3 := a6.2
  by_cases c : xAI h 22 0 s = -1
  · by_cases e : stN h t i = s
    · have := a6.1
      unfold CHI at this
      rw [if_pos e] at this
      exact absurd c this
    · have u4 : 0 ≤ (CHI h s (xAI h 22 0 s) (stN h t i)).toInt := by
        have := a6.1
        unfold CHI at this ⊢
        rw [if_neg e] at this ⊢
        have z := sm s (stN h t i) hs (wst i (by omega)).2
        unfold chI at z
        rw [if_neg (fun y => e y.symm)] at z
        exact (z.resolve_left this).1
      omega
  · have u4 := (CHI.sm sm hs (wst i (by omega)).2 (tr.resolve_left c)).resolve_left a6.1
    omega
theorem leave2 {h X : Hp} {n0 b fd ld s : Nat} {tm : Int32} (w : World h n0) (sm : Small h n0) (h10 : n0 ≤ 10) (hb : b < n0) (hld : ld < 100) (hs : s < n0) (q : TS h X b fd ld) (h0 : 0 ≤ tm.toInt ∧ tm.toInt ≤ 200000) (hfd : fd ≤ 1000) (htf : 0 ≤ (xAI h 22 0 s).toInt ∧ (xAI h 22 0 s).toInt ≤ 200) :
    TS h (F_X6_leaveAt1 X (nI s) tm) b fd ld ∧ LW (xFI X 704 0).toInt (xFI (F_X6_leaveAt1 X (nI s) tm) 704 0).toInt (K2 h b fd ld s tm.toInt) := by
  unfold F_X6_leaveAt1
  by_cases c : xFI X 704 0 ≤ tm
  · rw [if_pos c]
    rw [Int32.le_iff_toInt_le] at c
    exact ⟨q, LW.rf (fun v z => by
      have := kge2 w sm hb hld hs z
      omega)⟩
  · rw [if_neg c]
    have e : F_X3_transferAt X (nI s) = xAI h 22 0 s := by
      rw [tf_fx q.1]
      unfold F_X3_transferAt
      exact at_in h (n := 10) (by decide) rfl (by omega) (by decide)
    rw [e]
    exact goOn1_spec w sm hb hld hs h0 htf hfd q
def Er2 (h : Hp) (b fd ld s : Nat) (ti : Int) (tf : Int32) (t d q : Nat) (v : Int) : Prop := ∃ i j, i < j ∧ j < q ∧ OKB h s ti tf t d i ∧ K2 h b fd ld (stN h t j) (arI h t d j) v
def E2 (h : Hp) (b fd ld s : Nat) (ti : Int) (tf : Int32) (v : Int) : Prop := ∃ t d, t < xLS h 11 ∧ fd ≤ d ∧ d ≤ ld ∧ goN h t d ∧ Er2 h b fd ld s ti tf t d (lnN h t) v
theorem tryRun2_spec {h X : Hp} {n0 b fd ld s t d : Nat} {ti tf : Int32} (w : World h n0) (sm : Small h n0) (hb : b < n0) (hld : ld < 100) (hfd : fd ≤ 1000) (htf : ∀ x, x < n0 → 0 ≤ (xAI h 22 0 x).toInt ∧ (xAI h 22 0 x).toInt ≤ 200) (hs : s < n0) (h0 : 0 ≤ ti.toInt ∧ ti.toInt ≤ 200000) (hf0 : 0 ≤ tf.toInt ∧ tf.toInt ≤ 200) (ht : t < xLS h 11) (hd : d < 100) (hg : goN h t d) (q : TS h X b fd ld) :
    TS h (F_X6_tryRun2 X t (nI d) (nI s) ti tf) b fd ld ∧ LW (xFI X 704 0).toInt (xFI (F_X6_tryRun2 X t (nI d) (nI s) ti tf) 704 0).toInt (Er2 h b fd ld s ti.toInt tf t d (lnN h t)) := by
  have h10 := w.1
  obtain ⟨wl1, wl6, wl, wst, wdp⟩ := w.2.2.2 t ht
  have wdp := wdp d hd hg
  have key : ∀ (m p fu : Nat) (Y : Hp) (ab : Int32), p + m = lnN h t → m < fu → TS h Y b fd ld → ((ab = 0 ∧ ∀ i, i < p → ¬ OKB h s ti.toInt tf t d i) ∨ (¬ ab = 0 ∧ ∃ i, i < p ∧ OKB h s ti.toInt tf t d i)) → LW (xFI X 704 0).toInt (xFI Y 704 0).toInt (Er2 h b fd ld s ti.toInt tf t d p) →
      TS h (L_X6_tryRun2_6 X t (nI d) (nI s) ti tf fu Y ab p) b fd ld ∧ LW (xFI X 704 0).toInt (xFI (L_X6_tryRun2_6 X t (nI d) (nI s) ti tf fu Y ab p) 704 0).toInt (Er2 h b fd ld s ti.toInt tf t d (lnN h t)) := by
    intro m
    induction m with
    | zero =>
      intro p fu Y ab hp hf y f l
      obtain ⟨fu, rfl⟩ : ∃ g, fu = g + 1 := ⟨fu - 1, by omega⟩
      obtain rfl : p = lnN h t := by omega
      rw [L_X6_tryRun2_6_s]
      unfold B_X6_tryRun2_6
      rw [y.1.2.1 810 (by decide), wl, if_pos (Int32.le_refl _)]
      exact ⟨y, l⟩
    | succ m ih =>
      intro p fu Y ab hp hf y f l
      obtain ⟨fu, rfl⟩ : ∃ g, fu = g + 1 := ⟨fu - 1, by omega⟩
      have hpl : p < lnN h t := by omega
      obtain ⟨es, hx⟩ := wst p hpl
      rw [L_X6_tryRun2_6_s]
      unfold B_X6_tryRun2_6
      have hnp : ¬ nI (lnN h t) ≤ nI p := fun z => by
        have := (nI_leI (by omega) (by omega)).mp z
        omega
      rw [y.1.2.1 810 (by decide), wl, if_neg hnp, so_fx y.1, es, wk_fx y.1, lv_fx y.1, re_fx y.1]
      rcases f with ⟨rfl, f⟩ | ⟨f0, i0, i1, i2⟩
      · rw [if_pos rfl]
        have eC : (if nI (stN h t p) = nI s then tf else F_X3_walk h (nI s) (nI (stN h t p))) = CHI h s tf (stN h t p) := by
          unfold CHI
          by_cases c : stN h t p = s
          · rw [if_pos c, if_pos (by rw [c])]
          · rw [if_neg c, if_neg (fun z => c (nI_inj (by omega) (by omega) z))]
            unfold F_X3_walk
            rw [ix10, at_in h (n := 100) (by decide) rfl (by omega) (by decide)]
        rw [eC]
        have l2 : LW (xFI X 704 0).toInt (xFI Y 704 0).toInt (Er2 h b fd ld s ti.toInt tf t d (p + 1)) := l.same (fun v => by
          constructor
          · rintro ⟨i, j, a1, a2, a3, a4⟩
            exact absurd a3 (f i (by omega))
          · rintro ⟨i, j, a1, a2, a3, a4⟩
            exact absurd a3 (f i (by omega)))
        by_cases c1 : CHI h s tf (stN h t p) = -1
        · rw [if_pos c1]
          refine ih (p + 1) fu Y 0 (by omega) (by omega) y (.inl ⟨rfl, fun i hi z => ?_⟩) l2
          by_cases e : i = p
          · subst e
            exact z.1 c1
          · exact f i (by omega) z
        · have b1 := (CHI.sm sm hs hx hf0).resolve_left c1
          have e1 : (ti + CHI h s tf (stN h t p)).toInt = ti.toInt + (CHI h s tf (stN h t p)).toInt := add_int (by omega) (by omega)
          have iff : F_X7_leaves h t (nI d) (nI p) < ti + CHI h s tf (stN h t p) ↔ ¬ ti.toInt + (CHI h s tf (stN h t p)).toInt ≤ dpI h t d p := by
            rw [Int32.lt_iff_toInt_lt, e1]
            unfold dpI
            omega
          rw [if_neg c1]
          by_cases c2 : F_X7_leaves h t (nI d) (nI p) < ti + CHI h s tf (stN h t p)
          · rw [if_pos c2]
            refine ih (p + 1) fu Y 0 (by omega) (by omega) y (.inl ⟨rfl, fun i hi z => ?_⟩) l2
            by_cases e : i = p
            · subst e
              exact iff.mp c2 z.2
            · exact f i (by omega) z
          · rw [if_neg c2]
            refine ih (p + 1) fu Y 1 (by omega) (by omega) y (.inr ⟨by decide, p, by omega, c1, ?_⟩) l2
            exact Decidable.not_not.mp (fun z => c2 (iff.mpr z))
      · rw [if_neg f0]
        have h0p : p ≠ 0 := by omega
        have ha := wdp.2 p hpl h0p
        obtain ⟨y2, l2⟩ := leave2 w sm h10 hb hld hx y (tm := F_X7_reaches h t (nI d) (nI p)) ⟨ha.1, ha.2.1⟩ hfd (htf _ hx)
        refine ih (p + 1) fu _ ab (by omega) (by omega) y2 (.inr ⟨f0, i0, by omega, i2⟩) (l.trans l2 (fun v => ?_))
        constructor
        · rintro ⟨i, j, a1, a2, a3, a4⟩
          by_cases e : j = p
          · subst e
            exact .inr a4
          · exact .inl ⟨i, j, a1, by omega, a3, a4⟩
        · rintro (⟨i, j, a1, a2, a3, a4⟩ | a4)
          · exact ⟨i, j, a1, by omega, a3, a4⟩
          · exact ⟨i0, p, i1, by omega, i2, a4⟩
  unfold F_X6_tryRun2
  exact key (lnN h t) 0 _ X 0 (by omega) (by omega) q (.inl ⟨rfl, fun i hi => absurd hi (Nat.not_lt_zero _)⟩) (LW.rf (fun v z => by
    obtain ⟨i, j, a1, a2, _⟩ := z
    omega))
theorem goOn2_spec {h X : Hp} {n0 b fd ld s : Nat} {ti tf : Int32} (w : World h n0) (sm : Small h n0) (hb : b < n0) (hld : ld < 100) (htf : ∀ x, x < n0 → 0 ≤ (xAI h 22 0 x).toInt ∧ (xAI h 22 0 x).toInt ≤ 200) (hs : s < n0) (h0 : 0 ≤ ti.toInt ∧ ti.toInt ≤ 200000) (hf0 : 0 ≤ tf.toInt ∧ tf.toInt ≤ 200) (hfd : fd ≤ 1000) (q : TS h X b fd ld) :
    TS h (F_X6_goOn2 X (nI s) ti tf) b fd ld ∧ LW (xFI X 704 0).toInt (xFI (F_X6_goOn2 X (nI s) ti tf) 704 0).toInt (E2 h b fd ld s ti.toInt tf) := by
  have h10 := w.1
  have h20 := w.2.2.1
  let QD : Nat → Nat → Int → Prop := fun d0 q v => ∃ t d, t < xLS h 11 ∧ goN h t d ∧ ((fd ≤ d ∧ d < d0) ∨ (d = d0 ∧ t < q)) ∧ Er2 h b fd ld s ti.toInt tf t d (lnN h t) v
  have days : ∀ (mm dy fu : Nat) (Y : Hp), dy + mm = ld + 1 → fd ≤ dy → mm < fu → TS h Y b fd ld → LW (xFI X 704 0).toInt (xFI Y 704 0).toInt (QD dy 0) →
      TS h (L_X6_goOn2_19 X (nI s) ti tf fu Y (nI dy)) b fd ld ∧ LW (xFI X 704 0).toInt (xFI (L_X6_goOn2_19 X (nI s) ti tf fu Y (nI dy)) 704 0).toInt (E2 h b fd ld s ti.toInt tf) := by
    intro mm
    induction mm with
    | zero =>
      intro dy fu Y hdy hfy hf y l
      obtain ⟨fu, rfl⟩ : ∃ g, fu = g + 1 := ⟨fu - 1, by omega⟩
      rw [L_X6_goOn2_19_s]
      unfold B_X6_goOn2_19
      rw [y.2.2.2.1, if_pos ((nI_ltI (by omega) (by omega)).mpr (by omega))]
      refine ⟨y, l.same (fun v => ?_)⟩
      constructor
      · rintro ⟨t, d, a1, a2, a3, a4, a5⟩
        exact ⟨t, d, a1, a4, .inl ⟨a2, by omega⟩, a5⟩
      · rintro ⟨t, d, a1, a2, a3 | a3, a4⟩
        · exact ⟨t, d, a1, a3.1, by omega, a2, a4⟩
        · omega
    | succ mm ihd =>
      intro dy fu Y hdy hfy hf y l
      obtain ⟨fu, rfl⟩ : ∃ g, fu = g + 1 := ⟨fu - 1, by omega⟩
      have hd : dy < 100 := by omega
      rw [L_X6_goOn2_19_s]
      unfold B_X6_goOn2_19
      rw [y.2.2.2.1, if_neg (fun z => by
        have := (nI_ltI (by omega) (by omega)).mp z
        omega), if_neg (c := (100 : Int32) ≤ nI dy) (fun z => by
        have := (nI_leI (a := 100) (b := dy) (by decide) (by omega)).mp z
        omega)]
      have trips : ∀ (m i f : Nat) (Z : Hp), i + m = xLS h 11 → m < f → TS h Z b fd ld → LW (xFI X 704 0).toInt (xFI Z 704 0).toInt (QD dy i) →
          TS h (L_X6_goOn2_38 X (nI s) ti tf Y (nI dy) (L_X6_goOn2_19 X (nI s) ti tf fu) (K_X6_goOn2_38 X (nI s) ti tf Y (nI dy) (L_X6_goOn2_19 X (nI s) ti tf fu)) f Z i) b fd ld ∧
          LW (xFI X 704 0).toInt (xFI (L_X6_goOn2_38 X (nI s) ti tf Y (nI dy) (L_X6_goOn2_19 X (nI s) ti tf fu) (K_X6_goOn2_38 X (nI s) ti tf Y (nI dy) (L_X6_goOn2_19 X (nI s) ti tf fu)) f Z i) 704 0).toInt (E2 h b fd ld s ti.toInt tf) := by
        intro m
        induction m with
        | zero =>
          intro i f Z hi hf2 z l2
          obtain ⟨f, rfl⟩ : ∃ g, f = g + 1 := ⟨f - 1, by omega⟩
          obtain rfl : i = xLS h 11 := by omega
          rw [L_X6_goOn2_38_s]
          unfold B_X6_goOn2_38
          rw [ls_fx z.1, if_pos (Int32.le_refl _)]
          unfold K_X6_goOn2_38
          rw [nI_1]
          refine ihd (dy + 1) fu Z (by omega) (by omega) (by omega) z (l2.same (fun v => ?_))
          constructor
          · rintro ⟨t, d, a1, a2, a3, a4⟩
            refine ⟨t, d, a1, a2, ?_, a4⟩
            omega
          · rintro ⟨t, d, a1, a2, a3, a4⟩
            refine ⟨t, d, a1, a2, ?_, a4⟩
            omega
        | succ m ih =>
          intro i f Z hi hf2 z l2
          obtain ⟨f, rfl⟩ : ∃ g, f = g + 1 := ⟨f - 1, by omega⟩
          have ht : i < xLS h 11 := by omega
          obtain ⟨wl1, wl6, wl, wst, wdp⟩ := w.2.2.2 i ht
          have hni : ¬ nI (xLS h 11) ≤ nI i := fun y => by
            have := (nI_leI (by omega) (by omega)).mp y
            omega
          rw [L_X6_goOn2_38_s]
          unfold B_X6_goOn2_38
          rw [ls_fx z.1, if_neg hni, go_fx z.1, lv_fx z.1, re_fx z.1, z.1.2.1 810 (by decide), wl]
          -- a run that is left out
          have skip : (goN h i dy → ∀ v, Er2 h b fd ld s ti.toInt tf i dy (lnN h i) v → (xFI Z 704 0).toInt ≤ v) → LW (xFI X 704 0).toInt (xFI Z 704 0).toInt (QD dy (i + 1)) := fun hz => l2.skip (fun v => by
            rintro ⟨t, d, a1, a2, a3, a4⟩
            by_cases e : d = dy ∧ t = i
            · obtain ⟨rfl, rfl⟩ := e
              exact .inr (hz a2 v a4)
            · exact .inl ⟨t, d, a1, a2, by omega, a4⟩) (fun v => by
            rintro ⟨t, d, a1, a2, a3, a4⟩
            exact ⟨t, d, a1, a2, by omega, a4⟩)
          by_cases c0 : F_X7_goes h i (nI dy) = 0
          · rw [if_pos c0]
            exact ih (i + 1) f Z (by omega) (by omega) z (skip (fun hg => absurd c0 hg))
          · have hg : goN h i dy := c0
            have wdp := wdp dy hd hg
            rw [if_neg c0]
            by_cases c1 : xFI Z 704 0 ≤ F_X7_leaves h i (nI dy) 0
            · rw [if_pos c1]
              refine ih (i + 1) f Z (by omega) (by omega) z (skip (fun _ v => ?_))
              rintro ⟨x, j, a1, a2, a3, a4⟩
              rw [Int32.le_iff_toInt_le] at c1
              have u0 : (F_X7_leaves h i (nI dy) 0).toInt = dpI h i dy 0 := rfl
              have u1 := dp_ar w ht hd hg (show 0 < j by omega) a2
              have u2 := kge2 w sm hb hld ((wst j a2).2) a4
              omega
            · rw [if_neg c1]
              by_cases c2 : F_X7_reaches h i (nI dy) (nI (lnN h i) - 1) ≤ ti
              · rw [if_pos c2]
                refine ih (i + 1) f Z (by omega) (by omega) z (skip (fun _ v => ?_))
                rintro ⟨x, j, a1, a2, a3, a4⟩
                exfalso
                obtain ⟨c, hc⟩ : ∃ c, lnN h i = c + 1 := ⟨lnN h i - 1, by omega⟩
                rw [hc, nI_m1, Int32.le_iff_toInt_le] at c2
                have u0 : (F_X7_reaches h i (nI dy) (nI c)).toInt = arI h i dy c := rfl
                have u1 := dp_ar w ht hd hg a1 a2
                have u2 := ar_upto w ht hd hg (show j ≠ 0 by omega) (show j ≤ c by omega) (show c < lnN h i by omega)
                have u3 := a3.2
                have u4 := (CHI.sm sm hs (wst x (by omega)).2 hf0).resolve_left a3.1
                omega
              · rw [if_neg c2]
                obtain ⟨z2, l3⟩ := tryRun2_spec w sm hb hld hfd htf hs h0 hf0 ht hd hg z
                refine ih (i + 1) f _ (by omega) (by omega) z2 (l2.trans l3 (fun v => ?_))
                constructor
                · rintro ⟨t, d, a1, a2, a3, a4⟩
                  by_cases e : d = dy ∧ t = i
                  · obtain ⟨rfl, rfl⟩ := e
                    exact .inr a4
                  · exact .inl ⟨t, d, a1, a2, by omega, a4⟩
                · rintro (⟨t, d, a1, a2, a3, a4⟩ | a4)
                  · exact ⟨t, d, a1, a2, by omega, a4⟩
                  · exact ⟨i, dy, ht, hg, .inr ⟨rfl, by omega⟩, a4⟩
      exact trips (xLS h 11) 0 _ Y (by omega) (by omega) y l
  unfold F_X6_goOn2
  rw [q.2.2.1, nI_toInt (show fd < 2 ^ 31 by omega)]
  by_cases c : fd ≤ ld + 1
  · exact days (ld + 1 - fd) fd _ X (by omega) (Nat.le_refl _) (by omega) q (LW.rf (fun v z => by
      obtain ⟨t, d, a1, a2, a3, a4⟩ := z
      omega))
  · obtain ⟨f, hf⟩ : ∃ g, (2147483647 - (fd : Int)).toNat + 1 = g + 1 := ⟨_, rfl⟩
    rw [hf, L_X6_goOn2_19_s]
    unfold B_X6_goOn2_19
    rw [q.2.2.2.1, if_pos ((nI_ltI (by omega) (by omega)).mpr (by omega))]
    exact ⟨q, LW.rf (fun v z => by
      obtain ⟨t, d, a1, a2, a3, a4, a5⟩ := z
      omega)⟩
theorem LO.comp {N : Int} {n0 : Nat} {C : Nat → Int → Prop} {E : Nat → Int} {c : Nat → Int32} {V : Int} (hE : ∀ s, s < n0 → LO N (C s) (E s)) (hC : ∀ s u, s < n0 → C s u → u < N) (hV : LO N (fun v => ∃ s, s < n0 ∧ E s < N ∧ ¬ c s = -1 ∧ v = E s + (c s).toInt) V) :
    LO N (fun v => ∃ s u, s < n0 ∧ C s u ∧ ¬ c s = -1 ∧ v = u + (c s).toInt) V := by
  have low : ∀ s u, s < n0 → C s u → E s ≤ u := fun s u hs hc => by
    rcases hE s hs with ⟨_, z⟩ | ⟨_, z⟩
    · exact absurd hc (z u)
    · exact z u hc
  rcases hV with ⟨e, z⟩ | ⟨⟨s, h1, h2, h3, h4⟩, z⟩
  · refine .inl ⟨e, fun v => ?_⟩
    rintro ⟨s, u, h1, h2, h3, h4⟩
    have := low s u h1 h2
    have := hC s u h1 h2
    exact z _ ⟨s, h1, by omega, h3, rfl⟩
  · refine .inr ⟨?_, fun v => ?_⟩
    · rcases hE s h1 with ⟨e, _⟩ | ⟨q, _⟩
      · omega
      · exact ⟨s, E s, h1, q, h3, h4⟩
    · rintro ⟨s, u, h1, h2, h3, h4⟩
      have a1 := low s u h1 h2
      have a2 := hC s u h1 h2
      have := z _ ⟨s, h1, by omega, h3, rfl⟩
      omega
theorem LO.le_iff {N : Int} {Q : Int → Prop} {V x : Int} (l : LO N Q V) (hx : x < N) : V ≤ x ↔ ∃ v, Q v ∧ v ≤ x := by
  rcases l with ⟨e, z⟩ | ⟨q, z⟩
  · constructor
    · intro y
      omega
    · rintro ⟨v, a, b⟩
      exact absurd a (z v)
  · constructor
    · intro y
      exact ⟨V, q, y⟩
    · rintro ⟨v, a, b⟩
      have := z v a
      omega
theorem LW.lo {N L : Int} {Q : Int → Prop} (l : LW N L Q) (h : ∀ v, Q v → v < N) : LO N Q L := by
  obtain ⟨l1, l2, l3⟩ := l
  rcases l2 with e | q
  · refine .inl ⟨e, fun v qv => ?_⟩
    have := l3 v qv
    have := h v qv
    omega
  · exact .inr ⟨q, l3⟩
theorem CHI_ch {h : Hp} {s x : Nat} : CHI h s (xAI h 22 0 s) x = chI h s x := by
  unfold CHI chI
  by_cases c : x = s
  · subst c
    rw [if_pos rfl]
  · rw [if_neg c, if_neg (fun z => c z.symm)]
theorem E1.bnd {h : Hp} {n0 b fd ld s : Nat} {ti : Int} {tf : Int32} {v : Int} (w : World h n0) (sm : Small h n0) (hb : b < n0) (hld : ld < 100) (q : E1 h b fd ld s ti tf v) : 0 ≤ v ∧ v ≤ 300000 := by
  obtain ⟨t, d, a1, a2, a3, hg, i, j, a4, a5, a6, a7⟩ := q
  have hj := ((w.2.2.2 t a1).2.2.2.1 j a5).2
  have hd := ((w.2.2.2 t a1).2.2.2.2 d (by omega) hg).2 j a5 (by omega)
  have := (toB_sm sm hb hj).resolve_left a7.1
  have := a7.2
  omega
theorem E2.bnd {h : Hp} {n0 b fd ld s : Nat} {ti : Int} {tf : Int32} {v : Int} (w : World h n0) (sm : Small h n0) (hb : b < n0) (hld : ld < 100) (q : E2 h b fd ld s ti tf v) : 0 ≤ v ∧ v ≤ 300000 := by
  obtain ⟨t, d, a1, a2, a3, hg, i, j, a4, a5, a6, a7⟩ := q
  exact E1.bnd w sm hb hld a7
