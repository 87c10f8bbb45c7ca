/-! ===== own: what is told (out of whole) ===== -/
theorem FR.fx {fs : List Nat} {h X : Hp} {n0 : Nat} (w : World h n0) (q : FX fs ss2 h X) (hf : 403 ∉ fs ∧ 810 ∉ fs) {R E : Nat → Int} {fd ld s t d i j : Nat} (f : FR h R E fd ld s t d i j) : FR X R E fd ld s t d i j := by
  obtain ⟨-, e1, e2, e3, e4, e5⟩ := w.fx q hf
  unfold FR IsR at f ⊢
  rw [ls_fx q]
  simp only [e1, e2, e3, e4, e5]
  exact f
theorem AH.fx {fs : List Nat} {h X : Hp} (q : FX fs ss2 h X) {n0 b s : Nat} {E : Nat → Int} {dep : Int} (f : AH h n0 E b dep s) : AH X n0 E b dep s := by
  unfold AH OKA at f ⊢
  simp only [chI_fx q]
  exact f
def cgW (h : Hp) (a : Nat) (at' t i : Nat → Nat) (m : Nat) : Int32 := if m = 0 then (if a = stN h (t 0) (i 0) then 0 else chI h a (stN h (t 0) (i 0))) else chI h (at' m) (stN h (t m) (i m))
theorem told_loop {h HC : Hp} {n0 n a b ti : Nat} {e : Int} {at' t d i j : Nat → Nat} (w : World h n0) (sm : Small h n0) (ha : a < n0) (hti : ti ≤ 140000) (hn4 : n ≤ 4) (c : SearchC h HC n0 n a b ti) (wy : Way h n0 (Rc HC) (Ec HC) (ti / 1440 - 1) (ti / 1440 + 1) b n e at' t d i j)
    (hE : ∀ k, k ≠ 0 → k ≤ n → ∀ s, s < n0 → 0 ≤ Ec HC k s ∧ (Ec HC k s ≤ 300000 ∨ Ec HC k s = 1000000000)) (kx : Hp → Int32 → Option Nat → (Option Nat × Hp)) :
    ∀ (m : Nat) (X : Hp) (s : Int32) (fi : Option Nat), m ≤ n → n ≠ 0 → (m ≠ 0 → s = nI (at' m)) → fi = (if m < n then some (rid (xCN HC 5) n m) else none) → Told HC X (xCN HC 5) n m t d i j (cgW h a at' t i) →
      ∃ X' s', L_X5_tell_53 HC n kx m X s fi = kx X' s' (some (rid (xCN HC 5) n 0)) ∧ Told HC X' (xCN HC 5) n 0 t d i j (cgW h a at' t i) := by
  have h10 := w.1
  intro m
  induction m with
  | zero =>
    intro X s fi hm hn hs hfi q
    rw [if_pos (by omega)] at hfi
    exact ⟨X, s, by rw [L_X5_tell_53_z, hfi], q⟩
  | succ m ih =>
    intro X s fi hm hn hs hfi q
    have hs := hs (by omega)
    subst hs
    obtain ⟨f, ahd⟩ := wy.2 m (by omega)
    have qT := q.1
    obtain ⟨wC, -⟩ := w.fx c.1 (by decide)
    have wX := qT.world wC
    have fX := qT.fr (FR.fx w c.1 (by decide) f)
    have f0 := f
    obtain ⟨f1, f2, f3, f4, -⟩ := f0
    have hst := (w.2.2.2 (t m) f1).2.2.2.1
    have hat : at' (m + 1) < n0 := by
      have := (hst (j m) f4.2.2.1).2
      rw [f4.2.2.2.1] at this
      exact this
    have hi : i m < lnN h (t m) := by
      have := f4.2.1
      have := f4.2.2.1
      omega
    have hb2 := (hst (i m) hi).2
    have hdp := (((w.2.2.2 (t m) f1).2.2.2.2 (d m) (by omega) f4.1).1 (i m) hi).2
    have er := rideTo_spec (o := fi) wX hat (show m < 4 by omega) ((qT.2.1 606 (by decide) (by decide) 0).trans c.2.2.2.2.1) ((qT.2.1 607 (by decide) (by decide) 0).trans c.2.2.2.2.2.1) (by omega) (by omega) (by rw [qT.eRc, qT.eEc]; exact fX)
    -- the heap with the new ride
    have qT2 : TQ HC (F_X4_init (sNO X 5) (xCN X 5) (t m) (nI (d m)) (nI (i m)) (nI (j m)) fi) := qT.trans TQ.ride
    obtain ⟨g1, g2, g3, g4, g5⟩ := init_at (h := sNO X 5) (r := xCN X 5) (t := t m) (dy := nI (d m)) (bo := nI (i m)) (le := nI (j m)) (o := fi)
    have etr : tr (F_X4_init (sNO X 5) (xCN X 5) (t m) (nI (d m)) (nI (i m)) (nI (j m)) fi) (xCN X 5) = t m := by unfold tr; rw [g1]; rfl
    have eb : F_X4_boardsAt (F_X4_init (sNO X 5) (xCN X 5) (t m) (nI (d m)) (nI (i m)) (nI (j m)) fi) (t m) (xCN X 5) = nI (stN h (t m) (i m)) := by
      unfold F_X4_boardsAt
      rw [g4, qT2.so, so_fx c.1]
      exact (hst (i m) hi).1
    have ed : F_X4_departs (F_X4_init (sNO X 5) (xCN X 5) (t m) (nI (d m)) (nI (i m)) (nI (j m)) fi) (t m) (xCN X 5) = F_X7_leaves h (t m) (nI (d m)) (nI (i m)) := by
      unfold F_X4_departs
      rw [g3, g4, qT2.lv, lv_fx c.1]
    generalize hX2 : F_X4_init (sNO X 5) (xCN X 5) (t m) (nI (d m)) (nI (i m)) (nI (j m)) fi = X2 at er qT2 etr eb ed
    have ech : ∀ x y, x < 10 → y < 10 → F_X5_changing X2 (nI x) (nI y) = chI h x y := fun x y hx hy => by
      rw [chg_at X2 hx hy, qT2.eCh, chI_fx c.1]
    -- where one was ahead
    have eA : F_X5_stopAhead X2 (t m) (xCN X 5) (nI (m + 1)) = nI (if m = 0 then a else at' m) := by
      by_cases m0 : m = 0
      · subst m0
        rw [if_pos rfl]
        unfold F_X5_stopAhead
        rw [if_pos (c := nI (0 + 1) = (1 : Int32)) rfl]
        exact (qT2.2.1 603 (by decide) (by decide) 0).trans c.2.1
      · rw [if_neg m0]
        refine stopAhead_spec (qT2.world wC) (qT2.small (fun x y hx hy => by rw [chI_fx c.1]; exact sm x y hx hy)) (show m < 4 by omega) m0 hb2 (fun x hx => by rw [qT2.eEc]; exact hE m m0 (by omega) x hx) (by
          have : (F_X7_leaves h (t m) (nI (d m)) (nI (i m))).toInt ≤ 200000 := hdp
          exact this) eb ed ?_
        rw [qT2.eEc]
        exact qT2.ah (AH.fx c.1 (ahd m0))
    have eM : F_X5_minutesAhead X2 (nI (if m = 0 then a else at' m)) (t m) (xCN X 5) (nI (m + 1)) = cgW h a at' t i m := by
      unfold F_X5_minutesAhead cgW
      rw [eb]
      by_cases m0 : m = 0
      · subst m0
        rw [if_pos (c := nI (0 + 1) = (1 : Int32)) rfl, if_pos (c := (0 : Nat) = 0) rfl, if_pos (c := (0 : Nat) = 0) rfl, ech a _ (by omega) (by omega)]
        by_cases e1 : a = stN h (t 0) (i 0)
        · rw [if_pos (by rw [← e1]), if_pos e1]
        · rw [if_neg (fun z => e1 (nI_inj (by omega) (by omega) z)), if_neg e1]
      · have hat2 := (ahd m0).1
        rw [if_neg (fun z => by have := nI_inj (a := m + 1) (b := 1) (by omega) (by decide) z; omega), if_neg m0, if_neg m0, ech _ _ (by omega) (by omega)]
    have eN : xCN X 5 = rid (xCN HC 5) n m := by rw [q.2.1]; unfold rid; omega
    rw [L_X5_tell_53_s]
    unfold B_X5_tell_53
    rw [er]
    show ∃ X' s', (if some (xCN X 5) = none then _ else _) = _ ∧ _
    rw [if_neg (by simp)]
    rw [etr, eA, eM]
    refine ih _ _ _ (by omega) hn (fun m0 => by rw [if_neg m0]) (by rw [if_pos (by omega), eN]) ?_
    rw [← hX2]
    exact q.step (by omega) hfi rfl
def ToldC (h HC T : Hp) (n a b ti : Nat) (e : Int32) (at' t d i j : Nat → Nat) : Prop :=
  TQ HC T ∧ xCN T 5 = xCN HC 5 + n ∧ xCN T 3 = xCN HC 3 + 1 ∧ xFI T 300 (xCN HC 3) = nI ti ∧ xFI T 302 (xCN HC 3) = nI n ∧ xFI T 303 (xCN HC 3) = toB h b (at' n) ∧ xFI T 304 (xCN HC 3) = e ∧
  rls T (xCN HC 3) = (List.range' 0 n).map (rid (xCN HC 5) n) ∧
  ∀ x, x < n → xFR T 500 (rid (xCN HC 5) n x) = some (t x) ∧ xFI T 501 (rid (xCN HC 5) n x) = nI (d x) ∧ xFI T 502 (rid (xCN HC 5) n x) = nI (i x) ∧ xFI T 503 (rid (xCN HC 5) n x) = nI (j x) ∧ xFI T 505 (rid (xCN HC 5) n x) = cgW h a at' t i x ∧ xFR T 504 (rid (xCN HC 5) n x) = if x + 1 < n then some (rid (xCN HC 5) n (x + 1)) else none
theorem chs_rid {fr : Nat → Nat → Option Nat} {c n : Nat} (hf : ∀ x, x < n → fr 504 (rid c n x) = if x + 1 < n then some (rid c n (x + 1)) else none) : ∀ (k x fu : Nat), x + k = n → k ≤ fu → chs fr fu (if x < n then some (rid c n x) else none) = (List.range' x k).map (rid c n) := by
  intro k
  induction k with
  | zero =>
    intro x fu hx hk
    rw [if_neg (by omega)]
    cases fu <;> rfl
  | succ k ih =>
    intro x fu hx hk
    obtain ⟨fu, rfl⟩ : ∃ g, fu = g + 1 := ⟨fu - 1, by omega⟩
    rw [if_pos (by omega)]
    show rid c n x :: chs fr fu (fr 504 (rid c n x)) = rid c n x :: (List.range' (x + 1) k).map (rid c n)
    rw [hf x (by omega), ih (x + 1) fu (by omega) (by omega)]
theorem tell_none {h : Hp} {n : Nat} (he : ¬ F_X5_end h (nI n) < 1000000000) : F_X5_tell h n = (none, h) := by
  unfold F_X5_tell
  rw [if_neg he]
theorem tell_told {h HC : Hp} {n0 n a b ti : Nat} {at' t d i j : Nat → Nat} (w : World h n0) (sm : Small h n0) (ha : a < n0) (hb : b < n0) (hti : ti ≤ 140000) (hn : n ≠ 0) (hn4 : n ≤ 4) (c : SearchC h HC n0 n a b ti) (he : (F_X5_end HC (nI n)).toInt ≤ 400000)
    (wy : Way h n0 (Rc HC) (Ec HC) (ti / 1440 - 1) (ti / 1440 + 1) b n (F_X5_end HC (nI n)).toInt at' t d i j) (hE : ∀ k, k ≠ 0 → k ≤ n → ∀ s, s < n0 → 0 ≤ Ec HC k s ∧ (Ec HC k s ≤ 300000 ∨ Ec HC k s = 1000000000)) :
    ∃ T, F_X5_tell HC n = (some (xCN HC 3), T) ∧ ToldC h HC T n a b ti (F_X5_end HC (nI n)) at' t d i j := by
  have h10 := w.1
  obtain ⟨wC, -⟩ := w.fx c.1 (by decide)
  have smC : Small HC n0 := fun x y hx hy => by rw [chI_fx c.1]; exact sm x y hx hy
  have eTo : ∀ s, toB HC b s = toB h b s := fun s => by unfold toB; rw [c.1.2.2 23 (by decide)]
  have lsC : LSt HC n0 (Ec HC n) b (F_X5_end HC (nI n)).toInt (at' n) := by
    have := wy.1
    unfold LSt OKE at this ⊢
    simp only [eTo]
    exact this
  have hat := lsC.1
  have eL := lastStop_spec wC smC (show n < 5 by omega) hb c.2.2.1 (hE n hn (Nat.le_refl _)) he lsC
  have eW : (if nI (at' n) = xFI HC 604 0 then 0 else F_X3_walk HC (nI (at' n)) (xFI HC 604 0)) = toB h b (at' n) := by
    rw [c.2.2.1, ← eTo]
    unfold toB
    by_cases e1 : at' n = b
    · rw [if_pos e1, if_pos (by rw [e1])]
    · rw [if_neg e1, if_neg (fun z => e1 (nI_inj (by omega) (by omega) z))]
      unfold F_X3_walk
      rw [ix10, at_in HC (n := 100) (by decide) rfl (by omega) (by decide)]
  have lt : F_X5_end HC (nI n) < 1000000000 := by
    rw [Int32.lt_iff_toInt_lt, N9]
    omega
  obtain ⟨X, s', ex, q1, q2, q3, q4⟩ := told_loop w sm ha hti hn4 c wy hE (K_X5_tell_53 HC n) n HC (nI (at' n)) none (Nat.le_refl _) hn (fun _ => rfl) (by rw [if_neg (Nat.lt_irrefl _)]) ⟨TQ.rf, by omega, rfl, fun x hx hxn => by omega⟩
  unfold F_X5_tell
  rw [if_pos lt, eL, ex]
  unfold K_X5_tell_53
  rw [eL, eW, q3]
  have e605 : xFI (sNO X 3) 605 0 = nI ti := ((TQ.sno (h := X) (s := 3) (.inr rfl)).2.1 605 (by decide) (by decide) 0).trans ((q1.2.1 605 (by decide) (by decide) 0).trans c.2.2.2.1)
  rw [e605]
  refine ⟨_, rfl, ?_⟩
  have tq : TQ HC (F_X2_init (sNO X 3) (xCN HC 3) (nI ti) (some (rid (xCN HC 5) n 0)) (nI n) (toB h b (at' n)) (F_X5_end HC (nI n))) :=
    (((((q1.trans (TQ.sno (.inr rfl))).trans (TQ.sfi (.inr rfl))).trans (TQ.sfr (.inr rfl))).trans (TQ.sfi (.inr rfl))).trans (TQ.sfi (.inr rfl))).trans (TQ.sfi (.inr rfl))
  have n5 : ∀ (f i : Nat), f / 100 = 5 → xFI (sNO X 3) f i = xFI X f i := fun f i hf => if_neg (fun z => by have := z.1; omega)
  have r5 : ∀ (f i : Nat), f / 100 = 5 → xFR (sNO X 3) f i = xFR X f i := fun f i hf => if_neg (fun z => by have := z.1; omega)
  have g5 : ∀ (f i : Nat), f / 100 = 5 → xFI (F_X2_init (sNO X 3) (xCN HC 3) (nI ti) (some (rid (xCN HC 5) n 0)) (nI n) (toB h b (at' n)) (F_X5_end HC (nI n))) f i = xFI X f i := fun f i hf => by
    unfold F_X2_init
    rw [fi_ne (by omega), fi_ne (by omega), fi_ne (by omega), fi_sfr, fi_ne (by omega), n5 f i hf]
  have s5 : ∀ (f i : Nat), f / 100 = 5 → xFR (F_X2_init (sNO X 3) (xCN HC 3) (nI ti) (some (rid (xCN HC 5) n 0)) (nI n) (toB h b (at' n)) (F_X5_end HC (nI n))) f i = xFR X f i := fun f i hf => by
    unfold F_X2_init
    rw [fr_sfi, fr_sfi, fr_sfi, fr_ne (by omega), fr_sfi, r5 f i hf]
  refine ⟨tq, ?_, ?_, ?_, ?_, ?_, ?_, ?_, fun x hx => ?_⟩
  · exact (up1_ne (f := xCN X) (a := 3) (x := 5) (v := xCN X 3 + 1) (by decide)).trans q2
  · exact (up1_eq (f := xCN X) (a := 3) (v := xCN X 3 + 1)).trans (by rw [q3])
  · unfold F_X2_init
    rw [fi_ne (by decide), fi_ne (by decide), fi_ne (by decide), fi_sfr, fi_eq]
  · unfold F_X2_init
    rw [fi_ne (by decide), fi_ne (by decide), fi_eq]
  · unfold F_X2_init
    rw [fi_ne (by decide), fi_eq]
  · unfold F_X2_init
    rw [fi_eq]
  · have e301 : xFR (F_X2_init (sNO X 3) (xCN HC 3) (nI ti) (some (rid (xCN HC 5) n 0)) (nI n) (toB h b (at' n)) (F_X5_end HC (nI n))) 301 (xCN HC 3) = if 0 < n then some (rid (xCN HC 5) n 0) else none := by
      rw [if_pos (by omega)]
      unfold F_X2_init
      rw [fr_sfi, fr_sfi, fr_sfi, fr_eq]
    unfold rls
    rw [e301]
    exact chs_rid (fun x hx => by
      rw [s5 504 _ (by decide)]
      exact (q4 x (Nat.zero_le _) hx).2.1) n 0 5 (by omega) (by omega)
  · obtain ⟨b1, b2, b3, b4, b5, b6⟩ := q4 x (Nat.zero_le _) hx
    rw [s5 500 _ (by decide), g5 501 _ (by decide), g5 502 _ (by decide), g5 503 _ (by decide), g5 505 _ (by decide), s5 504 _ (by decide)]
    exact ⟨b1, b3, b4, b5, b6, b2⟩
