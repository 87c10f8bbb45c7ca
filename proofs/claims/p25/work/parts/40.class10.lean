/-! ===== own: what a told journey is ===== -/
theorem okR_n {x : Int32} {a : Int32} {n : Nat} (hn : n < 2147483648) (ha : ¬ a < 0) (p : okR x a (nI n)) : x = nI x.toNatClampNeg ∧ x.toNatClampNeg ≤ n := by
  have h0 : ¬ x < 0 := fun q => p.1 (Int32.lt_of_lt_of_le q (Int32.not_lt.mp ha))
  obtain ⟨j, hj, rfl⟩ := nI_of h0
  rw [nI_clamp (by omega)]
  exact ⟨rfl, (nI_leI hj hn).mp p.2⟩
theorem tell_gr {h : Hp} (k : Nat) : GR h (F_X5_tell h k).2 := by
  have key : ∀ (m : Nat) (h53 : Hp) (s : Int32) (fi : Option Nat), GR h h53 → GR h (L_X5_tell_53 h k (K_X5_tell_53 h k) m h53 s fi).2 := by
    intro m
    induction m with
    | zero =>
      intro h53 s fi g
      rw [L_X5_tell_53_z]
      unfold K_X5_tell_53
      exact g.trans GR.jour
    | succ m ih =>
      intro h53 s fi g
      rw [L_X5_tell_53_s]
      unfold B_X5_tell_53
      have gr := rt_gr0 (h := h53) s (nI (m + 1)) fi
      split
      · exact g.trans gr
      · exact ih _ _ _ (g.trans (gr.sfi5 (Nat.le_refl _) _))
  unfold F_X5_tell
  split
  · exact key k h _ none GR.rf
  · exact GR.rf
/-- what the telling of a journey has so far -/
theorem tell_key {h : Hp} (k : Nat) {m0 : Nat} (hm0 : m0 ≤ 4) : ∀ (m : Nat) (h53 : Hp) (s : Int32) (fi : Option Nat) (Q : List Nat), CW h53 → GR h h53 → xCN h53 3 = xCN h 3 → Chn (xFR h53) (xLS h53 11) fi Q → Q.length + m = m0 → (∀ r, r ∈ Q → r < xCN h53 5) →
    GR h (L_X5_tell_53 h k (K_X5_tell_53 h k) m h53 s fi).2 ∧ ((L_X5_tell_53 h k (K_X5_tell_53 h k) m h53 s fi).1 = none ∨ ((L_X5_tell_53 h k (K_X5_tell_53 h k) m h53 s fi).1 = some (xCN h 3) ∧ xCN (L_X5_tell_53 h k (K_X5_tell_53 h k) m h53 s fi).2 3 = xCN h 3 + 1 ∧ ∃ Q', Q'.length = m0 ∧ Chn (xFR (L_X5_tell_53 h k (K_X5_tell_53 h k) m h53 s fi).2) (xLS (L_X5_tell_53 h k (K_X5_tell_53 h k) m h53 s fi).2 11) (xFR (L_X5_tell_53 h k (K_X5_tell_53 h k) m h53 s fi).2 301 (xCN h 3)) Q' ∧ ∀ r, r ∈ Q' → r < xCN (L_X5_tell_53 h k (K_X5_tell_53 h k) m h53 s fi).2 5)) := by
  intro m
  induction m with
  | zero =>
    intro h53 s fi Q W g e3 hc hl hr
    rw [L_X5_tell_53_z]
    unfold K_X5_tell_53
    have gj : ∀ {ti : Int32} {o : Option Nat} {n wk en : Int32}, GR h53 (F_X2_init (sNO h53 3) (xCN h53 3) ti o n wk en) := GR.jour
    have e301 : ∀ {ti : Int32} {n wk en : Int32}, xFR (F_X2_init (sNO h53 3) (xCN h53 3) ti fi n wk en) 301 (xCN h53 3) = fi := if_pos ⟨rfl, rfl⟩
    refine ⟨g.trans gj, .inr ⟨by rw [e3], ?_, Q, by omega, ?_, ?_⟩⟩
    · show (if 3 = 3 then xCN h53 3 + 1 else 0) = _
      rw [if_pos rfl, e3]
    · rw [← e3]
      show Chn _ _ (xFR (F_X2_init (sNO h53 3) (xCN h53 3) _ fi _ _ _) 301 (xCN h53 3)) Q
      rw [e301, gj.ls]
      exact Chn.old (m := xCN h53 5) (fun r hr => ⟨gj.1 500 r ⟨fun _ => hr, fun e => absurd e (by decide)⟩, gj.1 504 r ⟨fun _ => hr, fun e => absurd e (by decide)⟩⟩) hr hc
    · exact fun r hr' => Nat.lt_of_lt_of_le (hr r hr') gj.2.2.2.2.2.1
  | succ m ih =>
    intro h53 s fi Q W g e3 hc hl hr
    rw [L_X5_tell_53_s]
    unfold B_X5_tell_53
    by_cases he : (F_X5_rideTo h53 s (nI (m + 1)) fi).1 = none
    · rw [if_pos he]
      exact ⟨g.trans (rt_gr W _ _ _), .inl rfl⟩
    · rw [if_neg he]
      rcases rt_spec W s (nI (m + 1)) fi with ⟨e, -⟩ | ⟨t, dy, bo, le, ht, e⟩
      · exact absurd e he
      · have gr := rt_gr W s (nI (m + 1)) fi
        have e504 : xFR (F_X5_rideTo h53 s (nI (m + 1)) fi).2 504 (xCN h53 5) = fi := by rw [e]; exact if_pos ⟨rfl, rfl⟩
        have e500 : xFR (F_X5_rideTo h53 s (nI (m + 1)) fi).2 500 (xCN h53 5) = some t := by
          rw [e]
          show (if 500 = 504 ∧ xCN h53 5 = xCN h53 5 then fi else if 500 = 500 ∧ xCN h53 5 = xCN h53 5 then some t else _) = _
          rw [if_neg (fun q => absurd q.1 (by decide)), if_pos ⟨rfl, rfl⟩]
        have e5 : xCN (F_X5_rideTo h53 s (nI (m + 1)) fi).2 5 = xCN h53 5 + 1 := by
          rw [e]
          show (if 5 = 5 then xCN h53 5 + 1 else 0) = _
          rw [if_pos rfl]
        have e3' : xCN (F_X5_rideTo h53 s (nI (m + 1)) fi).2 3 = xCN h53 3 := by rw [e]; rfl
        generalize F_X5_minutesAhead (F_X5_rideTo h53 s (nI (m + 1)) fi).2 (F_X5_stopAhead (F_X5_rideTo h53 s (nI (m + 1)) fi).2 (tr (F_X5_rideTo h53 s (nI (m + 1)) fi).2 (xCN h53 5)) (xCN h53 5) (nI (m + 1))) (tr (F_X5_rideTo h53 s (nI (m + 1)) fi).2 (xCN h53 5)) (xCN h53 5) (nI (m + 1)) = mi
        generalize F_X5_stopAhead (F_X5_rideTo h53 s (nI (m + 1)) fi).2 (tr (F_X5_rideTo h53 s (nI (m + 1)) fi).2 (xCN h53 5)) (xCN h53 5) (nI (m + 1)) = sa
        generalize hH : (F_X5_rideTo h53 s (nI (m + 1)) fi).2 = H at gr e504 e500 e5 e3' ⊢
        have g2 : GR h53 (sFI H 505 (xCN h53 5) mi) := gr.sfi5 (Nat.le_refl _) mi
        refine ih (sFI H 505 (xCN h53 5) mi) sa (some (xCN h53 5)) (xCN h53 5 :: Q) (g2.cw W) (g.trans g2) (e3'.trans e3) ⟨rfl, ⟨t, e500, ?_⟩, ?_⟩ (by rw [List.length_cons]; omega) ?_
        · show t < xLS H 11
          rw [gr.ls]
          exact ht
        · show Chn (xFR H) (xLS H 11) (xFR H 504 (xCN h53 5)) Q
          rw [e504, gr.ls]
          exact Chn.old (m := xCN h53 5) (fun r hr => ⟨gr.1 500 r ⟨fun _ => hr, fun e => absurd e (by decide)⟩, gr.1 504 r ⟨fun _ => hr, fun e => absurd e (by decide)⟩⟩) hr hc
        · intro r hr'
          show r < xCN H 5
          rw [e5]
          rcases List.mem_cons.mp hr' with rfl | hr'
          · exact Nat.lt_succ_self _
          · exact Nat.lt_succ_of_lt (hr r hr')
theorem tell_all {h : Hp} (W : CW h) {k : Nat} (hk : k ≤ 4) : GR h (F_X5_tell h k).2 ∧ ((F_X5_tell h k).1 = none ∨ ((F_X5_tell h k).1 = some (xCN h 3) ∧ xCN (F_X5_tell h k).2 3 = xCN h 3 + 1 ∧ ∃ Q, Q.length = k ∧ Chn (xFR (F_X5_tell h k).2) (xLS (F_X5_tell h k).2 11) (xFR (F_X5_tell h k).2 301 (xCN h 3)) Q ∧ ∀ r, r ∈ Q → r < xCN (F_X5_tell h k).2 5)) := by
  unfold F_X5_tell
  by_cases c : F_X5_end h (nI k) < 1000000000
  · rw [if_pos c]
    exact tell_key k hk k h _ none [] W GR.rf rfl rfl (by simp) (fun r hr => by cases hr)
  · rw [if_neg c]
    exact ⟨GR.rf, .inl rfl⟩
theorem tell_W {h : Hp} (W : CW h) {k : Nat} (hk : k ≤ 4) : CW (F_X5_tell h k).2 := (tell_all W hk).1.cw W
theorem tell_some {h : Hp} (W : CW h) {k : Nat} (hk : k ≤ 4) (he : ¬ (F_X5_tell h k).1 = none) : (F_X5_tell h k).1 = some (xCN h 3) ∧ Chn (xFR (F_X5_tell h k).2) (xLS (F_X5_tell h k).2 11) (xFR (F_X5_tell h k).2 301 (xCN h 3)) (rls (F_X5_tell h k).2 (xCN h 3)) := by
  rcases (tell_all W hk).2 with e | ⟨e, -, Q, hl, hc, -⟩
  · exact absurd e he
  · refine ⟨e, ?_⟩
    have : rls (F_X5_tell h k).2 (xCN h 3) = Q := chs_of Q 5 _ hc (by omega)
    rw [this]
    exact hc
theorem ra_some {h : Hp} {j : Nat} {R : List Nat} (hc : Chn (xFR h) (xLS h 11) (xFR h 301 j) R) {x : Int32} (he : ¬ F_X2_rideAt h j R x = none) : F_X2_rideAt h j R x = some ((F_X2_rideAt h j R x).getD 0) ∧ xFR h 500 ((F_X2_rideAt h j R x).getD 0) = some (tr h ((F_X2_rideAt h j R x).getD 0)) ∧ tr h ((F_X2_rideAt h j R x).getD 0) < xLS h 11 := by
  have key : ∀ (Q : List Nat) (i : Int32), L_X2_rideAt_7 h j R x Q i = none ∨ ∃ r, r ∈ Q ∧ L_X2_rideAt_7 h j R x Q i = some r := by
    intro Q
    induction Q with
    | nil => intro i; exact .inl rfl
    | cons r Q ih =>
      intro i
      rw [L_X2_rideAt_7_s]
      unfold B_X2_rideAt_7
      by_cases c : i = x
      · rw [if_pos c]
        exact .inr ⟨r, List.mem_cons_self, rfl⟩
      · rw [if_neg c]
        rcases ih (i + 1) with e | ⟨q, hq, e⟩
        · exact .inl e
        · exact .inr ⟨q, List.mem_cons_of_mem _ hq, e⟩
  rcases key R 0 with e | ⟨r, hr, e⟩
  · exact absurd e he
  · have e' : F_X2_rideAt h j R x = some r := e
    have mem : ∀ {Q : List Nat} {o : Option Nat}, Chn (xFR h) (xLS h 11) o Q → r ∈ Q → ∃ t, xFR h 500 r = some t ∧ t < xLS h 11 := by
      intro Q
      induction Q with
      | nil => intro o _ hm; cases hm
      | cons a Q ih =>
        intro o hc hm
        obtain ⟨_, h2, h3⟩ := hc
        rcases List.mem_cons.mp hm with rfl | hm
        · exact h2
        · exact ih h3 hm
    obtain ⟨t, h1, h2⟩ := mem hc hr
    rw [e']
    refine ⟨rfl, ?_, ?_⟩
    · show xFR h 500 r = some (tr h r)
      unfold tr
      rw [h1]
      rfl
    · show tr h r < _
      unfold tr
      rw [h1]
      exact h2
theorem c_tellI {g : GT} {d : Nat} (hd : 8 ≤ d) {h : Hp} (W : CW h) {x : Int32} (hx : okR x 1 4) : Ctr g M_X5_tell d 5 29 [.inr (6, some 0), .inl (.int x)] h (cy_detP (.inl (some (.inr (3, (F_X5_tell h x.toNatClampNeg).1)))) (F_X5_tell h x.toNatClampNeg).2 (True)) := by
  obtain ⟨h1, h2⟩ := okR_n (n := 4) (by decide) (by decide) hx
  have := c_X5_tell hd W h2 (g := g)
  rw [← h1] at this
  exact this
def F_X6_tryAll (h : Hp) (a b ti n : Int32) : Int32 × Hp := if n = 1 then F_X6_tryAll1 h a b ti else F_X6_tryAll2 h a b ti
theorem c_X6_tryAll {g : GT} {d : Nat} (hd : 11 ≤ d) {h : Hp} (W : CW h) {n : Int32} (hn : okR n 1 2) (a b ti : Int32) : Ctr g M_X6_tryAll d 0 0 [.inr (7, some 0), .inl (.int a), .inl (.int b), .inl (.int ti), .inl (.int n)] h (cy_detP (.inl (some (.inl (.int (F_X6_tryAll h a b ti n).1)))) (F_X6_tryAll h a b ti n).2 (SR h (F_X6_tryAll h a b ti n).2)) := by
  unfold F_X6_tryAll
  by_cases e : n = 1
  · simp only [if_pos e]
    rw [e]
    exact c_X6_tryAll1 (by omega) W a b ti
  · have e2 : n = 2 := by
      obtain ⟨h1, h2⟩ := okR_n (n := 2) (by decide) (by decide) hn
      have h3 : n.toNatClampNeg ≠ 1 := fun q => e (by rw [h1, q]; rfl)
      have h4 : n.toNatClampNeg ≠ 0 := fun q => hn.1 (by rw [h1, q]; decide)
      rw [h1, show n.toNatClampNeg = 2 by omega]; rfl
    simp only [if_neg e]
    rw [e2]
    exact c_X6_tryAll2 (by omega) W a b ti
def F_X8_arrivalAnew (h : Hp) (a : Int32) (b : Int32) (ti : Int32) (n : Int32) : Rs × Hp := (if okW h a b ti then (if okR n 1 2 then (.inl (some (.inl (.int (F_X8_timeOrNone ((F_X6_tryAll h a b ti n).1))))), (F_X6_tryAll h a b ti n).2) else (.inr cy_e1, h)) else (.inr (eW h a b), h))
set_option maxRecDepth 20000 in
theorem c_X8_arrivalAnew {g : GT} {d : Nat} (hd : 12 ≤ d) {h : Hp} (W : CW h) (a : Int32) (b : Int32) (ti : Int32) (n : Int32)  : Ctr g M_X8_arrivalAnew d 5 30 [.inr (9, some 0), .inl (.int a), .inl (.int b), .inl (.int ti), .inl (.int n)] h (cy_detP (F_X8_arrivalAnew h a b ti n).1 (F_X8_arrivalAnew h a b ti n).2 (SR h (F_X8_arrivalAnew h a b ti n).2)) := by
  refine cy_body rfl rfl (by decide) (Nat.le_of_ble_eq_true rfl) ?_
  refine wp_run [(.aload_n 0, 1), (.iload_n 1, 1), (.iload_n 2, 1), (.iload_n 3, 1)] (pc' := 4) (L' := [(0, .inr (9, some 0)), (1, .inl (.int a)), (2, .inl (.int b)), (3, .inl (.int ti)), (4, .inl (.int n))]) (st' := [.inl (.int ti), .inl (.int b), .inl (.int a), .inr (9, some 0)]) ⟨dX8_arrivalAnew_0, dX8_arrivalAnew_1, dX8_arrivalAnew_2, dX8_arrivalAnew_3, trivial⟩ rfl rfl ?_
  by_cases h_1 : okW h a b ti
  · refine wx_virtualD (M := M_X8_arrivalAnew) (uc := 1) (us := 6) (s := 9) (i := 0) (As := [.inl (.int a), .inl (.int b), .inl (.int ti)]) (rest := []) cls_9 rfl (ok_X8_needWay _ _) ml_X8_158 im_X8_needWay se_X8_needWay (by omega) (det_to (c_X8_needWay (d := d - 1) (h := h) (by omega) W a b ti) (fW_ok h_1) rfl) rfl rfl (Nat.le_of_ble_eq_true rfl) dX8_arrivalAnew_4 ?_
    refine wp_run [(.iload 4, 2), (.iconst 1, 1), (.iconst 2, 1)] (pc' := 11) (L' := [(0, .inr (9, some 0)), (1, .inl (.int a)), (2, .inl (.int b)), (3, .inl (.int ti)), (4, .inl (.int n))]) (st' := [.inl (.int 2), .inl (.int 1), .inl (.int n)]) ⟨dX8_arrivalAnew_7, dX8_arrivalAnew_9, dX8_arrivalAnew_10, trivial⟩ rfl rfl ?_
    by_cases h_2 : okR n 1 2
    · refine wx_staticD (M := M_X8_arrivalAnew) (uc := 0) (us := 0) (As := [.inl (.int n), .inl (.int 1), .inl (.int 2)]) (rest := []) (ok_X8_needRange _ _) ml_X8_50 st_X8_needRange (by omega) (det_to (c_X8_needRange (d := d - 1) (h := h) (by omega) n 1 2) (fR_ok h_2) rfl) rfl rfl (Nat.le_of_ble_eq_true rfl) dX8_arrivalAnew_11 ?_
      refine wp_run [(.aload_n 0, 1)] (pc' := 15) (L' := [(0, .inr (9, some 0)), (1, .inl (.int a)), (2, .inl (.int b)), (3, .inl (.int ti)), (4, .inl (.int n))]) (st' := [.inr (9, some 0)]) ⟨dX8_arrivalAnew_14, trivial⟩ rfl rfl ?_
      refine wx_getR cls_9 (k := 2) (f := 902) (t := 7) (o := some 0) (by decide) rfl rfl fl_X8_28 (W.fr (f := 902) (by decide)) dX8_arrivalAnew_15 ?_
      refine wp_run [(.iload_n 1, 1), (.iload_n 2, 1), (.iload_n 3, 1), (.iload 4, 2)] (pc' := 23) (L' := [(0, .inr (9, some 0)), (1, .inl (.int a)), (2, .inl (.int b)), (3, .inl (.int ti)), (4, .inl (.int n))]) (st' := [.inl (.int n), .inl (.int ti), .inl (.int b), .inl (.int a), .inr (7, some 0)]) ⟨dX8_arrivalAnew_18, dX8_arrivalAnew_19, dX8_arrivalAnew_20, dX8_arrivalAnew_21, trivial⟩ rfl rfl ?_
      refine wx_virtualDP (M := M_X8_arrivalAnew) (uc := 0) (us := 0) (s := 7) (i := 0) (As := [.inl (.int a), .inl (.int b), .inl (.int ti), .inl (.int n)]) (rest := []) cls_7 rfl (ok_X6_tryAll _ _) ml_X8_170 im_X6_tryAll se_X6_tryAll (by omega) (c_X6_tryAll (d := d - 1) (h := h) (by omega) W h_2 a b ti) rfl rfl (Nat.le_of_ble_eq_true rfl) dX8_arrivalAnew_23 (fun hS_3 => ?_)
      refine wx_staticD (M := M_X8_arrivalAnew) (uc := 0) (us := 0) (As := [.inl (.int ((F_X6_tryAll h a b ti n).1))]) (rest := []) (ok_X8_timeOrNone _ _) ml_X8_167 st_X8_timeOrNone (by omega) (c_X8_timeOrNone (d := d - 1) (h := ((F_X6_tryAll h a b ti n).2)) (by omega) ((F_X6_tryAll h a b ti n).1)) rfl rfl (Nat.le_of_ble_eq_true rfl) dX8_arrivalAnew_26 ?_
      exact wx_iret rfl rfl dX8_arrivalAnew_29 (by rw [F_X8_arrivalAnew, if_pos h_1, if_pos h_2]; dsimp only; exact ⟨hS_3, rfl, rfl⟩)
    · exact wx_staticT (M := M_X8_arrivalAnew) (uc := 0) (us := 0) (As := [.inl (.int n), .inl (.int 1), .inl (.int 2)]) (rest := []) (ok_X8_needRange _ _) ml_X8_50 st_X8_needRange (by omega) (det_to (c_X8_needRange (d := d - 1) (h := h) (by omega) n 1 2) (fR_no h_2) rfl) rfl rfl (Nat.le_of_ble_eq_true rfl) dX8_arrivalAnew_11 (cy_out rfl rfl (by rw [F_X8_arrivalAnew, if_pos h_1, if_neg h_2]; dsimp only; exact ⟨SR.rf, rfl, rfl⟩))
  · exact wx_virtualT (M := M_X8_arrivalAnew) (uc := 1) (us := 6) (s := 9) (i := 0) (As := [.inl (.int a), .inl (.int b), .inl (.int ti)]) (rest := []) cls_9 rfl (ok_X8_needWay _ _) ml_X8_158 im_X8_needWay se_X8_needWay (by omega) (det_to (c_X8_needWay (d := d - 1) (h := h) (by omega) W a b ti) (fW_no h_1) rfl) rfl rfl (Nat.le_of_ble_eq_true rfl) dX8_arrivalAnew_4 (cy_out rfl rfl (by rw [F_X8_arrivalAnew, if_neg h_1]; dsimp only; exact ⟨SR.rf, rfl, rfl⟩))
def F_X4_tell (h : Hp) (t : Nat) (r : Nat) (wh : Int32) : Int32 := (if wh = 0 then (xFI h 800 t) else (if wh = 1 then (xFI h 501 r) else (if wh = 2 then (F_X4_boardsAt h t r) else (if wh = 3 then (F_X7_stopAt h t (xFI h 503 r)) else (if wh = 4 then (F_X4_departs h t r) else (F_X4_arrives h t r))))))
set_option maxRecDepth 20000 in
theorem c_X4_tell {g : GT} {d : Nat} (hd : 4 ≤ d) {h : Hp} (W : CW h) {t r : Nat} (hr : xFR h 500 r = some t) (ht : t < xLS h 11) (wh : Int32)  : Ctr g M_X4_tell d 0 0 [.inr (5, some r), .inl (.int wh)] h (cy_det (.inl (some (.inl (.int (F_X4_tell h t r wh))))) h) := by
  refine cy_body rfl rfl (by decide) (Nat.le_of_ble_eq_true rfl) ?_
  refine wp_run [(.iload_n 1, 1)] (pc' := 1) (L' := [(0, .inr (5, some r)), (1, .inl (.int wh))]) (st' := [.inl (.int wh)]) ⟨dX4_tell_0, trivial⟩ rfl rfl ?_
  by_cases h_1 : wh = 0
  · refine wx_tableIn (tgt := 36) (off := 35) dX4_tell_1 (by rw [h_1]; decide) (by rw [h_1]; decide) (by rw [h_1]; rfl) (by decide) ?_
    refine wp_run [(.aload_n 0, 1)] (pc' := 37) (L' := [(0, .inr (5, some r)), (1, .inl (.int wh))]) (st' := [.inr (5, some r)]) ⟨dX4_tell_36, trivial⟩ rfl rfl ?_
    refine wx_getR cls_5 (k := 0) (f := 500) (t := 8) (o := some t) (by decide) rfl rfl fl_X4_7 hr dX4_tell_37 ?_
    refine wx_getI cls_8 (k := 0) (f := 800) (by decide) rfl rfl fl_X4_40 dX4_tell_40 ?_
    exact wx_iret rfl rfl dX4_tell_43 (by rw [F_X4_tell, if_pos h_1]; exact ⟨rfl, rfl⟩)
  by_cases h_2 : wh = 1
  · refine wx_tableIn (tgt := 44) (off := 43) dX4_tell_1 (by rw [h_2]; decide) (by rw [h_2]; decide) (by rw [h_2]; rfl) (by decide) ?_
    refine wp_run [(.aload_n 0, 1)] (pc' := 45) (L' := [(0, .inr (5, some r)), (1, .inl (.int wh))]) (st' := [.inr (5, some r)]) ⟨dX4_tell_44, trivial⟩ rfl rfl ?_
    refine wx_getI cls_5 (k := 1) (f := 501) (by decide) rfl rfl fl_X4_13 dX4_tell_45 ?_
    exact wx_iret rfl rfl dX4_tell_48 (by rw [F_X4_tell, if_neg h_1, if_pos h_2]; exact ⟨rfl, rfl⟩)
  by_cases h_3 : wh = 2
  · refine wx_tableIn (tgt := 49) (off := 48) dX4_tell_1 (by rw [h_3]; decide) (by rw [h_3]; decide) (by rw [h_3]; rfl) (by decide) ?_
    refine wp_run [(.aload_n 0, 1)] (pc' := 50) (L' := [(0, .inr (5, some r)), (1, .inl (.int wh))]) (st' := [.inr (5, some r)]) ⟨dX4_tell_49, trivial⟩ rfl rfl ?_
    refine wx_virtualD (M := M_X4_tell) (uc := 0) (us := 0) (s := 5) (i := r) (As := []) (rest := []) cls_5 rfl (ok_X4_boardsAt _ _) ml_X4_43 im_X4_boardsAt se_X4_boardsAt (by omega) (c_X4_boardsAt (d := d - 1) (h := h) (by omega) W hr ht) rfl rfl (Nat.le_of_ble_eq_true rfl) dX4_tell_50 ?_
    exact wx_iret rfl rfl dX4_tell_53 (by rw [F_X4_tell, if_neg h_1, if_neg h_2, if_pos h_3]; exact ⟨rfl, rfl⟩)
  by_cases h_4 : wh = 3
  · refine wx_tableIn (tgt := 54) (off := 53) dX4_tell_1 (by rw [h_4]; decide) (by rw [h_4]; decide) (by rw [h_4]; rfl) (by decide) ?_
    refine wp_run [(.aload_n 0, 1)] (pc' := 55) (L' := [(0, .inr (5, some r)), (1, .inl (.int wh))]) (st' := [.inr (5, some r)]) ⟨dX4_tell_54, trivial⟩ rfl rfl ?_
    refine wx_getR cls_5 (k := 0) (f := 500) (t := 8) (o := some t) (by decide) rfl rfl fl_X4_7 hr dX4_tell_55 ?_
    refine wp_run [(.aload_n 0, 1)] (pc' := 59) (L' := [(0, .inr (5, some r)), (1, .inl (.int wh))]) (st' := [.inr (5, some r), .inr (8, some t)]) ⟨dX4_tell_58, trivial⟩ rfl rfl ?_
    refine wx_getI cls_5 (k := 3) (f := 503) (by decide) rfl rfl fl_X4_20 dX4_tell_59 ?_
    refine wx_virtualD (M := M_X4_tell) (uc := 0) (us := 0) (s := 8) (i := t) (As := [.inl (.int (xFI h 503 r))]) (rest := []) cls_8 rfl (ok_X7_stopAt _ _) ml_X4_27 im_X7_stopAt se_X7_stopAt (by omega) (c_X7_stopAt (d := d - 1) (h := h) (by omega) W ht (xFI h 503 r)) rfl rfl (Nat.le_of_ble_eq_true rfl) dX4_tell_62 ?_
    exact wx_iret rfl rfl dX4_tell_65 (by rw [F_X4_tell, if_neg h_1, if_neg h_2, if_neg h_3, if_pos h_4]; exact ⟨rfl, rfl⟩)
  by_cases h_5 : wh = 4
  · refine wx_tableIn (tgt := 66) (off := 65) dX4_tell_1 (by rw [h_5]; decide) (by rw [h_5]; decide) (by rw [h_5]; rfl) (by decide) ?_
    refine wp_run [(.aload_n 0, 1)] (pc' := 67) (L' := [(0, .inr (5, some r)), (1, .inl (.int wh))]) (st' := [.inr (5, some r)]) ⟨dX4_tell_66, trivial⟩ rfl rfl ?_
    refine wx_virtualD (M := M_X4_tell) (uc := 0) (us := 0) (s := 5) (i := r) (As := []) (rest := []) cls_5 rfl (ok_X4_departs _ _) ml_X4_47 im_X4_departs se_X4_departs (by omega) (c_X4_departs (d := d - 1) (h := h) (by omega) W hr ht) rfl rfl (Nat.le_of_ble_eq_true rfl) dX4_tell_67 ?_
    exact wx_iret rfl rfl dX4_tell_70 (by rw [F_X4_tell, if_neg h_1, if_neg h_2, if_neg h_3, if_neg h_4, if_pos h_5]; exact ⟨rfl, rfl⟩)
  refine wx_tableOut (tgt := 71) dX4_tell_1 (cy_o4 h_1 h_2 h_3 h_4 h_5) (by decide) ?_
  refine wp_run [(.aload_n 0, 1)] (pc' := 72) (L' := [(0, .inr (5, some r)), (1, .inl (.int wh))]) (st' := [.inr (5, some r)]) ⟨dX4_tell_71, trivial⟩ rfl rfl ?_
  refine wx_virtualD (M := M_X4_tell) (uc := 0) (us := 0) (s := 5) (i := r) (As := []) (rest := []) cls_5 rfl (ok_X4_arrives _ _) ml_X4_50 im_X4_arrives se_X4_arrives (by omega) (c_X4_arrives (d := d - 1) (h := h) (by omega) W hr ht) rfl rfl (Nat.le_of_ble_eq_true rfl) dX4_tell_72 ?_
  exact wx_iret rfl rfl dX4_tell_75 (by rw [F_X4_tell, if_neg h_1, if_neg h_2, if_neg h_3, if_neg h_4, if_neg h_5]; exact ⟨rfl, rfl⟩)
def F_X8_ride (h : Hp) (a : Int32) (b : Int32) (ti : Int32) (n : Int32) (ri : Int32) (wh : Int32) : Rs × Hp := (if okW h a b ti then (if okR n 1 4 then (if okR wh 0 5 then (if 0 ≤ ri then (if (F_X5_tell (F_X5_seek h a b ti n) (n.toNatClampNeg)).1 = none then (.inl (some (.inl (.int (-1)))), (F_X5_tell (F_X5_seek h a b ti n) (n.toNatClampNeg)).2) else (if (F_X2_rideAt ((F_X5_tell (F_X5_seek h a b ti n) (n.toNatClampNeg)).2) (xCN (F_X5_seek h a b ti n) 3) (rls ((F_X5_tell (F_X5_seek h a b ti n) (n.toNatClampNeg)).2) (xCN (F_X5_seek h a b ti n) 3)) ri) = none then (.inl (some (.inl (.int (-1)))), (F_X5_tell (F_X5_seek h a b ti n) (n.toNatClampNeg)).2) else (.inl (some (.inl (.int (F_X4_tell ((F_X5_tell (F_X5_seek h a b ti n) (n.toNatClampNeg)).2) (tr ((F_X5_tell (F_X5_seek h a b ti n) (n.toNatClampNeg)).2) ((F_X2_rideAt ((F_X5_tell (F_X5_seek h a b ti n) (n.toNatClampNeg)).2) (xCN (F_X5_seek h a b ti n) 3) (rls ((F_X5_tell (F_X5_seek h a b ti n) (n.toNatClampNeg)).2) (xCN (F_X5_seek h a b ti n) 3)) ri).getD 0)) ((F_X2_rideAt ((F_X5_tell (F_X5_seek h a b ti n) (n.toNatClampNeg)).2) (xCN (F_X5_seek h a b ti n) 3) (rls ((F_X5_tell (F_X5_seek h a b ti n) (n.toNatClampNeg)).2) (xCN (F_X5_seek h a b ti n) 3)) ri).getD 0) wh)))), (F_X5_tell (F_X5_seek h a b ti n) (n.toNatClampNeg)).2))) else (.inr cy_e1, h)) else (.inr cy_e1, h)) else (.inr cy_e1, h)) else (.inr (eW h a b), h))
set_option maxRecDepth 20000 in
theorem c_X8_ride {g : GT} {d : Nat} (hd : 9 ≤ d) {h : Hp} (W : CW h) (a : Int32) (b : Int32) (ti : Int32) (n : Int32) (ri : Int32) (wh : Int32)  : Ctr g M_X8_ride d 12 71 [.inr (9, some 0), .inl (.int a), .inl (.int b), .inl (.int ti), .inl (.int n), .inl (.int ri), .inl (.int wh)] h (cy_detP (F_X8_ride h a b ti n ri wh).1 (F_X8_ride h a b ti n ri wh).2 (True)) := by
  refine cy_body rfl rfl (by decide) (Nat.le_of_ble_eq_true rfl) ?_
  refine wp_run [(.aload_n 0, 1), (.iload_n 1, 1), (.iload_n 2, 1), (.iload_n 3, 1)] (pc' := 4) (L' := [(0, .inr (9, some 0)), (1, .inl (.int a)), (2, .inl (.int b)), (3, .inl (.int ti)), (4, .inl (.int n)), (5, .inl (.int ri)), (6, .inl (.int wh))]) (st' := [.inl (.int ti), .inl (.int b), .inl (.int a), .inr (9, some 0)]) ⟨dX8_ride_0, dX8_ride_1, dX8_ride_2, dX8_ride_3, trivial⟩ rfl rfl ?_
  by_cases h_1 : okW h a b ti
  · refine wx_virtualD (M := M_X8_ride) (uc := 8) (us := 47) (s := 9) (i := 0) (As := [.inl (.int a), .inl (.int b), .inl (.int ti)]) (rest := []) cls_9 rfl (ok_X8_needWay _ _) ml_X8_158 im_X8_needWay se_X8_needWay (by omega) (det_to (c_X8_needWay (d := d - 1) (h := h) (by omega) W a b ti) (fW_ok h_1) rfl) rfl rfl (Nat.le_of_ble_eq_true rfl) dX8_ride_4 ?_
    refine wp_run [(.iload 4, 2), (.iconst 1, 1), (.iconst 4, 1)] (pc' := 11) (L' := [(0, .inr (9, some 0)), (1, .inl (.int a)), (2, .inl (.int b)), (3, .inl (.int ti)), (4, .inl (.int n)), (5, .inl (.int ri)), (6, .inl (.int wh))]) (st' := [.inl (.int 4), .inl (.int 1), .inl (.int n)]) ⟨dX8_ride_7, dX8_ride_9, dX8_ride_10, trivial⟩ rfl rfl ?_
    by_cases h_2 : okR n 1 4
    · refine wx_staticD (M := M_X8_ride) (uc := 7) (us := 41) (As := [.inl (.int n), .inl (.int 1), .inl (.int 4)]) (rest := []) (ok_X8_needRange _ _) ml_X8_50 st_X8_needRange (by omega) (det_to (c_X8_needRange (d := d - 1) (h := h) (by omega) n 1 4) (fR_ok h_2) rfl) rfl rfl (Nat.le_of_ble_eq_true rfl) dX8_ride_11 ?_
      refine wp_run [(.iload 6, 2), (.iconst 0, 1), (.iconst 5, 1)] (pc' := 18) (L' := [(0, .inr (9, some 0)), (1, .inl (.int a)), (2, .inl (.int b)), (3, .inl (.int ti)), (4, .inl (.int n)), (5, .inl (.int ri)), (6, .inl (.int wh))]) (st' := [.inl (.int 5), .inl (.int 0), .inl (.int wh)]) ⟨dX8_ride_14, dX8_ride_16, dX8_ride_17, trivial⟩ rfl rfl ?_
      by_cases h_3 : okR wh 0 5
      · refine wx_staticD (M := M_X8_ride) (uc := 6) (us := 35) (As := [.inl (.int wh), .inl (.int 0), .inl (.int 5)]) (rest := []) (ok_X8_needRange _ _) ml_X8_50 st_X8_needRange (by omega) (det_to (c_X8_needRange (d := d - 1) (h := h) (by omega) wh 0 5) (fR_ok h_3) rfl) rfl rfl (Nat.le_of_ble_eq_true rfl) dX8_ride_18 ?_
        refine wp_run [(.iload 5, 2)] (pc' := 23) (L' := [(0, .inr (9, some 0)), (1, .inl (.int a)), (2, .inl (.int b)), (3, .inl (.int ti)), (4, .inl (.int n)), (5, .inl (.int ri)), (6, .inl (.int wh))]) (st' := [.inl (.int ri)]) ⟨dX8_ride_21, trivial⟩ rfl rfl ?_
        refine wx_if_ge (tgt := 36) dX8_ride_23 (by decide) (fun h_4 => ?_) (fun h_4 => ?_)
        · refine wp_run [(.aload_n 0, 1)] (pc' := 37) (L' := [(0, .inr (9, some 0)), (1, .inl (.int a)), (2, .inl (.int b)), (3, .inl (.int ti)), (4, .inl (.int n)), (5, .inl (.int ri)), (6, .inl (.int wh))]) (st' := [.inr (9, some 0)]) ⟨dX8_ride_36, trivial⟩ rfl rfl ?_
          refine wx_getR cls_9 (k := 1) (f := 901) (t := 6) (o := some 0) (by decide) rfl rfl fl_X8_21 (W.fr (f := 901) (by decide)) dX8_ride_37 ?_
          refine wp_run [(.iload_n 1, 1), (.iload_n 2, 1), (.iload_n 3, 1), (.iload 4, 2)] (pc' := 45) (L' := [(0, .inr (9, some 0)), (1, .inl (.int a)), (2, .inl (.int b)), (3, .inl (.int ti)), (4, .inl (.int n)), (5, .inl (.int ri)), (6, .inl (.int wh))]) (st' := [.inl (.int n), .inl (.int ti), .inl (.int b), .inl (.int a), .inr (6, some 0)]) ⟨dX8_ride_40, dX8_ride_41, dX8_ride_42, dX8_ride_43, trivial⟩ rfl rfl ?_
          refine wx_virtualDP (M := M_X8_ride) (uc := 6) (us := 35) (s := 6) (i := 0) (As := [.inl (.int a), .inl (.int b), .inl (.int ti), .inl (.int n)]) (rest := []) cls_6 rfl (ok_X5_seek _ _) ml_X8_161 im_X5_seek se_X5_seek (by omega) (c_X5_seek (d := d - 1) (h := h) (by omega) W a b ti n) rfl rfl (Nat.le_of_ble_eq_true rfl) dX8_ride_45 (fun hS_5 => ?_)
          refine wp_run [(.aload_n 0, 1)] (pc' := 49) (L' := [(0, .inr (9, some 0)), (1, .inl (.int a)), (2, .inl (.int b)), (3, .inl (.int ti)), (4, .inl (.int n)), (5, .inl (.int ri)), (6, .inl (.int wh))]) (st' := [.inr (9, some 0)]) ⟨dX8_ride_48, trivial⟩ rfl rfl ?_
          refine wx_getR cls_9 (k := 1) (f := 901) (t := 6) (o := some 0) (by decide) rfl rfl fl_X8_21 ((W.sr hS_5).fr (f := 901) (by decide)) dX8_ride_49 ?_
          refine wp_run [(.iload 4, 2)] (pc' := 54) (L' := [(0, .inr (9, some 0)), (1, .inl (.int a)), (2, .inl (.int b)), (3, .inl (.int ti)), (4, .inl (.int n)), (5, .inl (.int ri)), (6, .inl (.int wh))]) (st' := [.inl (.int n), .inr (6, some 0)]) ⟨dX8_ride_52, trivial⟩ rfl rfl ?_
          refine wx_virtualDP (M := M_X8_ride) (uc := 1) (us := 6) (s := 6) (i := 0) (As := [.inl (.int n)]) (rest := []) cls_6 rfl (ok_X5_tell _ _) ml_X8_177 im_X5_tell se_X5_tell (by omega) (c_tellI (d := d - 1) (h := (F_X5_seek h a b ti n)) (by omega) (W.sr hS_5) h_2) rfl rfl (Nat.le_of_ble_eq_true rfl) dX8_ride_54 (fun hS_6 => ?_)
          refine wp_run [(.astore 7, 2), (.aload 7, 2)] (pc' := 61) (L' := [(7, .inr (3, (F_X5_tell (F_X5_seek h a b ti n) (n.toNatClampNeg)).1)), (0, .inr (9, some 0)), (1, .inl (.int a)), (2, .inl (.int b)), (3, .inl (.int ti)), (4, .inl (.int n)), (5, .inl (.int ri)), (6, .inl (.int wh))]) (st' := [.inr (3, (F_X5_tell (F_X5_seek h a b ti n) (n.toNatClampNeg)).1)]) ⟨dX8_ride_57, dX8_ride_59, trivial⟩ rfl rfl ?_
          refine wx_ifnonnullP (tgt := 68) dX8_ride_61 (by decide) (fun h_7 => ?_) (fun h_7 => ?_)
          · obtain ⟨he, hcj⟩ := tell_some (W.sr hS_5) (okR_n (n := 4) (by decide) (by decide) h_2).2 h_7
            rw [he]
            skip
            refine wp_run [(.aload 7, 2), (.iload 5, 2)] (pc' := 72) (L' := [(7, .inr (3, some (xCN (F_X5_seek h a b ti n) 3))), (0, .inr (9, some 0)), (1, .inl (.int a)), (2, .inl (.int b)), (3, .inl (.int ti)), (4, .inl (.int n)), (5, .inl (.int ri)), (6, .inl (.int wh))]) (st' := [.inl (.int ri), .inr (3, some (xCN (F_X5_seek h a b ti n) 3))]) ⟨dX8_ride_68, dX8_ride_70, trivial⟩ rfl rfl ?_
            refine wx_virtualD (M := M_X8_ride) (uc := 1) (us := 6) (s := 3) (i := (xCN (F_X5_seek h a b ti n) 3)) (As := [.inl (.int ri)]) (rest := []) cls_3 rfl (ok_X2_rideAt _ _) ml_X8_181 im_X2_rideAt se_X2_rideAt (by omega) (c_X2_rideAt (d := d - 1) (h := ((F_X5_tell (F_X5_seek h a b ti n) (n.toNatClampNeg)).2)) (by omega) (tell_W (W.sr hS_5) (okR_n (n := 4) (by decide) (by decide) h_2).2) hcj ri) rfl rfl (Nat.le_of_ble_eq_true rfl) dX8_ride_72 ?_
            refine wp_run [(.astore 8, 2), (.aload 8, 2)] (pc' := 79) (L' := [(8, .inr (5, (F_X2_rideAt ((F_X5_tell (F_X5_seek h a b ti n) (n.toNatClampNeg)).2) (xCN (F_X5_seek h a b ti n) 3) (rls ((F_X5_tell (F_X5_seek h a b ti n) (n.toNatClampNeg)).2) (xCN (F_X5_seek h a b ti n) 3)) ri))), (7, .inr (3, some (xCN (F_X5_seek h a b ti n) 3))), (0, .inr (9, some 0)), (1, .inl (.int a)), (2, .inl (.int b)), (3, .inl (.int ti)), (4, .inl (.int n)), (5, .inl (.int ri)), (6, .inl (.int wh))]) (st' := [.inr (5, (F_X2_rideAt ((F_X5_tell (F_X5_seek h a b ti n) (n.toNatClampNeg)).2) (xCN (F_X5_seek h a b ti n) 3) (rls ((F_X5_tell (F_X5_seek h a b ti n) (n.toNatClampNeg)).2) (xCN (F_X5_seek h a b ti n) 3)) ri))]) ⟨dX8_ride_75, dX8_ride_77, trivial⟩ rfl rfl ?_
            refine wx_ifnonnullP (tgt := 86) dX8_ride_79 (by decide) (fun h_8 => ?_) (fun h_8 => ?_)
            · obtain ⟨he2, hr, ht⟩ := ra_some hcj h_8
              rw [he2]
              skip
              refine wp_run [(.aload 8, 2), (.iload 6, 2)] (pc' := 90) (L' := [(8, .inr (5, some ((F_X2_rideAt ((F_X5_tell (F_X5_seek h a b ti n) (n.toNatClampNeg)).2) (xCN (F_X5_seek h a b ti n) 3) (rls ((F_X5_tell (F_X5_seek h a b ti n) (n.toNatClampNeg)).2) (xCN (F_X5_seek h a b ti n) 3)) ri).getD 0))), (7, .inr (3, some (xCN (F_X5_seek h a b ti n) 3))), (0, .inr (9, some 0)), (1, .inl (.int a)), (2, .inl (.int b)), (3, .inl (.int ti)), (4, .inl (.int n)), (5, .inl (.int ri)), (6, .inl (.int wh))]) (st' := [.inl (.int wh), .inr (5, some ((F_X2_rideAt ((F_X5_tell (F_X5_seek h a b ti n) (n.toNatClampNeg)).2) (xCN (F_X5_seek h a b ti n) 3) (rls ((F_X5_tell (F_X5_seek h a b ti n) (n.toNatClampNeg)).2) (xCN (F_X5_seek h a b ti n) 3)) ri).getD 0))]) ⟨dX8_ride_86, dX8_ride_88, trivial⟩ rfl rfl ?_
              refine wx_virtualD (M := M_X8_ride) (uc := 1) (us := 6) (s := 5) (i := ((F_X2_rideAt ((F_X5_tell (F_X5_seek h a b ti n) (n.toNatClampNeg)).2) (xCN (F_X5_seek h a b ti n) 3) (rls ((F_X5_tell (F_X5_seek h a b ti n) (n.toNatClampNeg)).2) (xCN (F_X5_seek h a b ti n) 3)) ri).getD 0)) (As := [.inl (.int wh)]) (rest := []) cls_5 rfl (ok_X4_tell _ _) ml_X8_187 im_X4_tell se_X4_tell (by omega) (c_X4_tell (d := d - 1) (h := ((F_X5_tell (F_X5_seek h a b ti n) (n.toNatClampNeg)).2)) (by omega) (tell_W (W.sr hS_5) (okR_n (n := 4) (by decide) (by decide) h_2).2) hr ht wh) rfl rfl (Nat.le_of_ble_eq_true rfl) dX8_ride_90 ?_
              exact wx_iret rfl rfl dX8_ride_93 (by rw [F_X8_ride, if_pos h_1, if_pos h_2, if_pos h_3, if_pos h_4, if_neg h_7, if_neg h_8]; dsimp only; exact ⟨trivial, rfl, rfl⟩)
            · refine wp_run [(.iconst (-1), 1)] (pc' := 83) (L' := [(8, .inr (5, (F_X2_rideAt ((F_X5_tell (F_X5_seek h a b ti n) (n.toNatClampNeg)).2) (xCN (F_X5_seek h a b ti n) 3) (rls ((F_X5_tell (F_X5_seek h a b ti n) (n.toNatClampNeg)).2) (xCN (F_X5_seek h a b ti n) 3)) ri))), (7, .inr (3, some (xCN (F_X5_seek h a b ti n) 3))), (0, .inr (9, some 0)), (1, .inl (.int a)), (2, .inl (.int b)), (3, .inl (.int ti)), (4, .inl (.int n)), (5, .inl (.int ri)), (6, .inl (.int wh))]) (st' := [.inl (.int (-1))]) ⟨dX8_ride_82, trivial⟩ rfl rfl ?_
              refine wx_goto (tgt := 93) dX8_ride_83 (by decide) ?_
              exact wx_iret rfl rfl dX8_ride_93 (by rw [F_X8_ride, if_pos h_1, if_pos h_2, if_pos h_3, if_pos h_4, if_neg h_7, if_pos h_8]; dsimp only; exact ⟨trivial, rfl, rfl⟩)
          · refine wx_null (s := 5) (by decide) dX8_ride_64 ?_
            refine wx_goto (tgt := 75) dX8_ride_65 (by decide) ?_
            refine wp_run [(.astore 8, 2), (.aload 8, 2)] (pc' := 79) (L' := [(8, .inr (5, none)), (7, .inr (3, (F_X5_tell (F_X5_seek h a b ti n) (n.toNatClampNeg)).1)), (0, .inr (9, some 0)), (1, .inl (.int a)), (2, .inl (.int b)), (3, .inl (.int ti)), (4, .inl (.int n)), (5, .inl (.int ri)), (6, .inl (.int wh))]) (st' := [.inr (5, none)]) ⟨dX8_ride_75, dX8_ride_77, trivial⟩ rfl rfl ?_
            refine wx_ifnonnullP (tgt := 86) dX8_ride_79 (by decide) (fun h => absurd rfl h) (fun _ => ?_)
            refine wp_run [(.iconst (-1), 1)] (pc' := 83) (L' := [(8, .inr (5, none)), (7, .inr (3, (F_X5_tell (F_X5_seek h a b ti n) (n.toNatClampNeg)).1)), (0, .inr (9, some 0)), (1, .inl (.int a)), (2, .inl (.int b)), (3, .inl (.int ti)), (4, .inl (.int n)), (5, .inl (.int ri)), (6, .inl (.int wh))]) (st' := [.inl (.int (-1))]) ⟨dX8_ride_82, trivial⟩ rfl rfl ?_
            refine wx_goto (tgt := 93) dX8_ride_83 (by decide) ?_
            exact wx_iret rfl rfl dX8_ride_93 (by rw [F_X8_ride, if_pos h_1, if_pos h_2, if_pos h_3, if_pos h_4, if_pos h_7]; dsimp only; exact ⟨trivial, rfl, rfl⟩)
        · exact wx_throwS (text := "out of range") (uc := 5) (us := 29) rfl rfl rfl (by omega) (by decide) exk_1 exi_1 (by decide) exa_1 (Nat.le_of_ble_eq_true rfl) dX8_ride_26 dX8_ride_29 dX8_ride_30 dX8_ride_32 dX8_ride_35 (by rw [F_X8_ride, if_pos h_1, if_pos h_2, if_pos h_3, if_neg h_4]; dsimp only; exact ⟨trivial, rfl, rfl⟩)
      · exact wx_staticT (M := M_X8_ride) (uc := 6) (us := 35) (As := [.inl (.int wh), .inl (.int 0), .inl (.int 5)]) (rest := []) (ok_X8_needRange _ _) ml_X8_50 st_X8_needRange (by omega) (det_to (c_X8_needRange (d := d - 1) (h := h) (by omega) wh 0 5) (fR_no h_3) rfl) rfl rfl (Nat.le_of_ble_eq_true rfl) dX8_ride_18 (cy_out rfl rfl (by rw [F_X8_ride, if_pos h_1, if_pos h_2, if_neg h_3]; dsimp only; exact ⟨trivial, rfl, rfl⟩))
    · exact wx_staticT (M := M_X8_ride) (uc := 7) (us := 41) (As := [.inl (.int n), .inl (.int 1), .inl (.int 4)]) (rest := []) (ok_X8_needRange _ _) ml_X8_50 st_X8_needRange (by omega) (det_to (c_X8_needRange (d := d - 1) (h := h) (by omega) n 1 4) (fR_no h_2) rfl) rfl rfl (Nat.le_of_ble_eq_true rfl) dX8_ride_11 (cy_out rfl rfl (by rw [F_X8_ride, if_pos h_1, if_neg h_2]; dsimp only; exact ⟨trivial, rfl, rfl⟩))
  · exact wx_virtualT (M := M_X8_ride) (uc := 8) (us := 47) (s := 9) (i := 0) (As := [.inl (.int a), .inl (.int b), .inl (.int ti)]) (rest := []) cls_9 rfl (ok_X8_needWay _ _) ml_X8_158 im_X8_needWay se_X8_needWay (by omega) (det_to (c_X8_needWay (d := d - 1) (h := h) (by omega) W a b ti) (fW_no h_1) rfl) rfl rfl (Nat.le_of_ble_eq_true rfl) dX8_ride_4 (cy_out rfl rfl (by rw [F_X8_ride, if_neg h_1]; dsimp only; exact ⟨trivial, rfl, rfl⟩))
def F_X8_journey (h : Hp) (a : Int32) (b : Int32) (ti : Int32) (n : Int32) (wh : Int32) : Rs × Hp := (if okW h a b ti then (if okR n 1 4 then (if okR wh 0 3 then (if (F_X5_tell (F_X5_seek h a b ti n) (n.toNatClampNeg)).1 = none then (.inl (some (.inl (.double 13830554455654793216))), (F_X5_tell (F_X5_seek h a b ti n) (n.toNatClampNeg)).2) else (if wh = 0 then (.inl (some (.inl (.double (F_X2_chance ((F_X5_tell (F_X5_seek h a b ti n) (n.toNatClampNeg)).2) (xCN (F_X5_seek h a b ti n) 3) (rls ((F_X5_tell (F_X5_seek h a b ti n) (n.toNatClampNeg)).2) (xCN (F_X5_seek h a b ti n) 3)))))), (F_X5_tell (F_X5_seek h a b ti n) (n.toNatClampNeg)).2) else (if wh = 1 then (.inl (some (.inl (.double (F_X2_carbon ((F_X5_tell (F_X5_seek h a b ti n) (n.toNatClampNeg)).2) (xCN (F_X5_seek h a b ti n) 3) (rls ((F_X5_tell (F_X5_seek h a b ti n) (n.toNatClampNeg)).2) (xCN (F_X5_seek h a b ti n) 3)))))), (F_X5_tell (F_X5_seek h a b ti n) (n.toNatClampNeg)).2) else (if wh = 2 then (.inl (some (.inl (.double (F_X2_score ((F_X5_tell (F_X5_seek h a b ti n) (n.toNatClampNeg)).2) (xCN (F_X5_seek h a b ti n) 3) (rls ((F_X5_tell (F_X5_seek h a b ti n) (n.toNatClampNeg)).2) (xCN (F_X5_seek h a b ti n) 3)))))), (F_X5_tell (F_X5_seek h a b ti n) (n.toNatClampNeg)).2) else (.inl (some (.inl (.double (FP.i2d ((F_X1_fareOf ((F_X5_tell (F_X5_seek h a b ti n) (n.toNatClampNeg)).2) (xCN (F_X5_seek h a b ti n) 3) (rls ((F_X5_tell (F_X5_seek h a b ti n) (n.toNatClampNeg)).2) (xCN (F_X5_seek h a b ti n) 3))).1))))), (F_X1_fareOf ((F_X5_tell (F_X5_seek h a b ti n) (n.toNatClampNeg)).2) (xCN (F_X5_seek h a b ti n) 3) (rls ((F_X5_tell (F_X5_seek h a b ti n) (n.toNatClampNeg)).2) (xCN (F_X5_seek h a b ti n) 3))).2))))) else (.inr cy_e1, h)) else (.inr cy_e1, h)) else (.inr (eW h a b), h))
set_option maxRecDepth 20000 in
theorem c_X8_journey {g : GT} {d : Nat} (hd : 9 ≤ d) {h : Hp} (W : CW h) (a : Int32) (b : Int32) (ti : Int32) (n : Int32) (wh : Int32)  : Ctr g M_X8_journey d 11 65 [.inr (9, some 0), .inl (.int a), .inl (.int b), .inl (.int ti), .inl (.int n), .inl (.int wh)] h (cy_detP (F_X8_journey h a b ti n wh).1 (F_X8_journey h a b ti n wh).2 (True)) := by
  refine cy_body rfl rfl (by decide) (Nat.le_of_ble_eq_true rfl) ?_
  refine wp_run [(.aload_n 0, 1), (.iload_n 1, 1), (.iload_n 2, 1), (.iload_n 3, 1)] (pc' := 4) (L' := [(0, .inr (9, some 0)), (1, .inl (.int a)), (2, .inl (.int b)), (3, .inl (.int ti)), (4, .inl (.int n)), (5, .inl (.int wh))]) (st' := [.inl (.int ti), .inl (.int b), .inl (.int a), .inr (9, some 0)]) ⟨dX8_journey_0, dX8_journey_1, dX8_journey_2, dX8_journey_3, trivial⟩ rfl rfl ?_
  by_cases h_1 : okW h a b ti
  · refine wx_virtualD (M := M_X8_journey) (uc := 7) (us := 41) (s := 9) (i := 0) (As := [.inl (.int a), .inl (.int b), .inl (.int ti)]) (rest := []) cls_9 rfl (ok_X8_needWay _ _) ml_X8_158 im_X8_needWay se_X8_needWay (by omega) (det_to (c_X8_needWay (d := d - 1) (h := h) (by omega) W a b ti) (fW_ok h_1) rfl) rfl rfl (Nat.le_of_ble_eq_true rfl) dX8_journey_4 ?_
    refine wp_run [(.iload 4, 2), (.iconst 1, 1), (.iconst 4, 1)] (pc' := 11) (L' := [(0, .inr (9, some 0)), (1, .inl (.int a)), (2, .inl (.int b)), (3, .inl (.int ti)), (4, .inl (.int n)), (5, .inl (.int wh))]) (st' := [.inl (.int 4), .inl (.int 1), .inl (.int n)]) ⟨dX8_journey_7, dX8_journey_9, dX8_journey_10, trivial⟩ rfl rfl ?_
    by_cases h_2 : okR n 1 4
    · refine wx_staticD (M := M_X8_journey) (uc := 6) (us := 35) (As := [.inl (.int n), .inl (.int 1), .inl (.int 4)]) (rest := []) (ok_X8_needRange _ _) ml_X8_50 st_X8_needRange (by omega) (det_to (c_X8_needRange (d := d - 1) (h := h) (by omega) n 1 4) (fR_ok h_2) rfl) rfl rfl (Nat.le_of_ble_eq_true rfl) dX8_journey_11 ?_
      refine wp_run [(.iload 5, 2), (.iconst 0, 1), (.iconst 3, 1)] (pc' := 18) (L' := [(0, .inr (9, some 0)), (1, .inl (.int a)), (2, .inl (.int b)), (3, .inl (.int ti)), (4, .inl (.int n)), (5, .inl (.int wh))]) (st' := [.inl (.int 3), .inl (.int 0), .inl (.int wh)]) ⟨dX8_journey_14, dX8_journey_16, dX8_journey_17, trivial⟩ rfl rfl ?_
      by_cases h_3 : okR wh 0 3
      · refine wx_staticD (M := M_X8_journey) (uc := 5) (us := 29) (As := [.inl (.int wh), .inl (.int 0), .inl (.int 3)]) (rest := []) (ok_X8_needRange _ _) ml_X8_50 st_X8_needRange (by omega) (det_to (c_X8_needRange (d := d - 1) (h := h) (by omega) wh 0 3) (fR_ok h_3) rfl) rfl rfl (Nat.le_of_ble_eq_true rfl) dX8_journey_18 ?_
        refine wp_run [(.aload_n 0, 1)] (pc' := 22) (L' := [(0, .inr (9, some 0)), (1, .inl (.int a)), (2, .inl (.int b)), (3, .inl (.int ti)), (4, .inl (.int n)), (5, .inl (.int wh))]) (st' := [.inr (9, some 0)]) ⟨dX8_journey_21, trivial⟩ rfl rfl ?_
        refine wx_getR cls_9 (k := 1) (f := 901) (t := 6) (o := some 0) (by decide) rfl rfl fl_X8_21 (W.fr (f := 901) (by decide)) dX8_journey_22 ?_
        refine wp_run [(.iload_n 1, 1), (.iload_n 2, 1), (.iload_n 3, 1), (.iload 4, 2)] (pc' := 30) (L' := [(0, .inr (9, some 0)), (1, .inl (.int a)), (2, .inl (.int b)), (3, .inl (.int ti)), (4, .inl (.int n)), (5, .inl (.int wh))]) (st' := [.inl (.int n), .inl (.int ti), .inl (.int b), .inl (.int a), .inr (6, some 0)]) ⟨dX8_journey_25, dX8_journey_26, dX8_journey_27, dX8_journey_28, trivial⟩ rfl rfl ?_
        refine wx_virtualDP (M := M_X8_journey) (uc := 5) (us := 29) (s := 6) (i := 0) (As := [.inl (.int a), .inl (.int b), .inl (.int ti), .inl (.int n)]) (rest := []) cls_6 rfl (ok_X5_seek _ _) ml_X8_161 im_X5_seek se_X5_seek (by omega) (c_X5_seek (d := d - 1) (h := h) (by omega) W a b ti n) rfl rfl (Nat.le_of_ble_eq_true rfl) dX8_journey_30 (fun hS_4 => ?_)
        refine wp_run [(.aload_n 0, 1)] (pc' := 34) (L' := [(0, .inr (9, some 0)), (1, .inl (.int a)), (2, .inl (.int b)), (3, .inl (.int ti)), (4, .inl (.int n)), (5, .inl (.int wh))]) (st' := [.inr (9, some 0)]) ⟨dX8_journey_33, trivial⟩ rfl rfl ?_
        refine wx_getR cls_9 (k := 1) (f := 901) (t := 6) (o := some 0) (by decide) rfl rfl fl_X8_21 ((W.sr hS_4).fr (f := 901) (by decide)) dX8_journey_34 ?_
        refine wp_run [(.iload 4, 2)] (pc' := 39) (L' := [(0, .inr (9, some 0)), (1, .inl (.int a)), (2, .inl (.int b)), (3, .inl (.int ti)), (4, .inl (.int n)), (5, .inl (.int wh))]) (st' := [.inl (.int n), .inr (6, some 0)]) ⟨dX8_journey_37, trivial⟩ rfl rfl ?_
        refine wx_virtualDP (M := M_X8_journey) (uc := 0) (us := 0) (s := 6) (i := 0) (As := [.inl (.int n)]) (rest := []) cls_6 rfl (ok_X5_tell _ _) ml_X8_177 im_X5_tell se_X5_tell (by omega) (c_tellI (d := d - 1) (h := (F_X5_seek h a b ti n)) (by omega) (W.sr hS_4) h_2) rfl rfl (Nat.le_of_ble_eq_true rfl) dX8_journey_39 (fun hS_5 => ?_)
        refine wp_run [(.astore 6, 2), (.aload 6, 2)] (pc' := 46) (L' := [(6, .inr (3, (F_X5_tell (F_X5_seek h a b ti n) (n.toNatClampNeg)).1)), (0, .inr (9, some 0)), (1, .inl (.int a)), (2, .inl (.int b)), (3, .inl (.int ti)), (4, .inl (.int n)), (5, .inl (.int wh))]) (st' := [.inr (3, (F_X5_tell (F_X5_seek h a b ti n) (n.toNatClampNeg)).1)]) ⟨dX8_journey_42, dX8_journey_44, trivial⟩ rfl rfl ?_
        refine wx_ifnonnullP (tgt := 53) dX8_journey_46 (by decide) (fun h_6 => ?_) (fun h_6 => ?_)
        · obtain ⟨he, hcj⟩ := tell_some (W.sr hS_4) (okR_n (n := 4) (by decide) (by decide) h_2).2 h_6
          rw [he]
          skip
          refine wp_run [(.iload 5, 2)] (pc' := 55) (L' := [(6, .inr (3, some (xCN (F_X5_seek h a b ti n) 3))), (0, .inr (9, some 0)), (1, .inl (.int a)), (2, .inl (.int b)), (3, .inl (.int ti)), (4, .inl (.int n)), (5, .inl (.int wh))]) (st' := [.inl (.int wh)]) ⟨dX8_journey_53, trivial⟩ rfl rfl ?_
          by_cases h_7 : wh = 0
          · refine wx_tableIn (tgt := 80) (off := 25) dX8_journey_55 (by rw [h_7]; decide) (by rw [h_7]; decide) (by rw [h_7]; rfl) (by decide) ?_
            refine wp_run [(.aload 6, 2)] (pc' := 82) (L' := [(6, .inr (3, some (xCN (F_X5_seek h a b ti n) 3))), (0, .inr (9, some 0)), (1, .inl (.int a)), (2, .inl (.int b)), (3, .inl (.int ti)), (4, .inl (.int n)), (5, .inl (.int wh))]) (st' := [.inr (3, some (xCN (F_X5_seek h a b ti n) 3))]) ⟨dX8_journey_80, trivial⟩ rfl rfl ?_
            refine wx_virtualD (M := M_X8_journey) (uc := 0) (us := 0) (s := 3) (i := (xCN (F_X5_seek h a b ti n) 3)) (As := []) (rest := []) cls_3 rfl (ok_X2_chance _ _) ml_X8_193 im_X2_chance se_X2_chance (by omega) (c_X2_chance (d := d - 1) (h := ((F_X5_tell (F_X5_seek h a b ti n) (n.toNatClampNeg)).2)) (by omega) (tell_W (W.sr hS_4) (okR_n (n := 4) (by decide) (by decide) h_2).2) hcj (rls_len _ _)) rfl rfl (Nat.le_of_ble_eq_true rfl) dX8_journey_82 ?_
            exact wx_dret rfl rfl dX8_journey_85 (by rw [F_X8_journey, if_pos h_1, if_pos h_2, if_pos h_3, if_neg h_6, if_pos h_7]; dsimp only; exact ⟨trivial, rfl, rfl⟩)
          by_cases h_8 : wh = 1
          · refine wx_tableIn (tgt := 86) (off := 31) dX8_journey_55 (by rw [h_8]; decide) (by rw [h_8]; decide) (by rw [h_8]; rfl) (by decide) ?_
            refine wp_run [(.aload 6, 2)] (pc' := 88) (L' := [(6, .inr (3, some (xCN (F_X5_seek h a b ti n) 3))), (0, .inr (9, some 0)), (1, .inl (.int a)), (2, .inl (.int b)), (3, .inl (.int ti)), (4, .inl (.int n)), (5, .inl (.int wh))]) (st' := [.inr (3, some (xCN (F_X5_seek h a b ti n) 3))]) ⟨dX8_journey_86, trivial⟩ rfl rfl ?_
            refine wx_virtualD (M := M_X8_journey) (uc := 0) (us := 0) (s := 3) (i := (xCN (F_X5_seek h a b ti n) 3)) (As := []) (rest := []) cls_3 rfl (ok_X2_carbon _ _) ml_X8_197 im_X2_carbon se_X2_carbon (by omega) (c_X2_carbon (d := d - 1) (h := ((F_X5_tell (F_X5_seek h a b ti n) (n.toNatClampNeg)).2)) (by omega) (tell_W (W.sr hS_4) (okR_n (n := 4) (by decide) (by decide) h_2).2) hcj (rls_len _ _)) rfl rfl (Nat.le_of_ble_eq_true rfl) dX8_journey_88 ?_
            exact wx_dret rfl rfl dX8_journey_91 (by rw [F_X8_journey, if_pos h_1, if_pos h_2, if_pos h_3, if_neg h_6, if_neg h_7, if_pos h_8]; dsimp only; exact ⟨trivial, rfl, rfl⟩)
          by_cases h_9 : wh = 2
          · refine wx_tableIn (tgt := 92) (off := 37) dX8_journey_55 (by rw [h_9]; decide) (by rw [h_9]; decide) (by rw [h_9]; rfl) (by decide) ?_
            refine wp_run [(.aload 6, 2)] (pc' := 94) (L' := [(6, .inr (3, some (xCN (F_X5_seek h a b ti n) 3))), (0, .inr (9, some 0)), (1, .inl (.int a)), (2, .inl (.int b)), (3, .inl (.int ti)), (4, .inl (.int n)), (5, .inl (.int wh))]) (st' := [.inr (3, some (xCN (F_X5_seek h a b ti n) 3))]) ⟨dX8_journey_92, trivial⟩ rfl rfl ?_
            refine wx_virtualD (M := M_X8_journey) (uc := 0) (us := 0) (s := 3) (i := (xCN (F_X5_seek h a b ti n) 3)) (As := []) (rest := []) cls_3 rfl (ok_X2_score _ _) ml_X8_200 im_X2_score se_X2_score (by omega) (c_X2_score (d := d - 1) (h := ((F_X5_tell (F_X5_seek h a b ti n) (n.toNatClampNeg)).2)) (by omega) (tell_W (W.sr hS_4) (okR_n (n := 4) (by decide) (by decide) h_2).2) hcj (rls_len _ _)) rfl rfl (Nat.le_of_ble_eq_true rfl) dX8_journey_94 ?_
            exact wx_dret rfl rfl dX8_journey_97 (by rw [F_X8_journey, if_pos h_1, if_pos h_2, if_pos h_3, if_neg h_6, if_neg h_7, if_neg h_8, if_pos h_9]; dsimp only; exact ⟨trivial, rfl, rfl⟩)
          refine wx_tableOut (tgt := 98) dX8_journey_55 (cy_o2 h_7 h_8 h_9) (by decide) ?_
          refine wp_run [(.aload_n 0, 1)] (pc' := 99) (L' := [(6, .inr (3, some (xCN (F_X5_seek h a b ti n) 3))), (0, .inr (9, some 0)), (1, .inl (.int a)), (2, .inl (.int b)), (3, .inl (.int ti)), (4, .inl (.int n)), (5, .inl (.int wh))]) (st' := [.inr (9, some 0)]) ⟨dX8_journey_98, trivial⟩ rfl rfl ?_
          refine wx_getR cls_9 (k := 3) (f := 903) (t := 2) (o := some 0) (by decide) rfl rfl fl_X8_35 ((tell_W (W.sr hS_4) (okR_n (n := 4) (by decide) (by decide) h_2).2).fr (f := 903) (by decide)) dX8_journey_99 ?_
          refine wp_run [(.aload 6, 2)] (pc' := 104) (L' := [(6, .inr (3, some (xCN (F_X5_seek h a b ti n) 3))), (0, .inr (9, some 0)), (1, .inl (.int a)), (2, .inl (.int b)), (3, .inl (.int ti)), (4, .inl (.int n)), (5, .inl (.int wh))]) (st' := [.inr (3, some (xCN (F_X5_seek h a b ti n) 3)), .inr (2, some 0)]) ⟨dX8_journey_102, trivial⟩ rfl rfl ?_
          refine wx_virtualDP (M := M_X8_journey) (uc := 0) (us := 0) (s := 2) (i := 0) (As := [.inr (3, some (xCN (F_X5_seek h a b ti n) 3))]) (rest := []) cls_2 rfl (ok_X1_fareOf _ _) ml_X8_203 im_X1_fareOf se_X1_fareOf (by omega) (c_X1_fareOf (d := d - 1) (h := ((F_X5_tell (F_X5_seek h a b ti n) (n.toNatClampNeg)).2)) (by omega) (tell_W (W.sr hS_4) (okR_n (n := 4) (by decide) (by decide) h_2).2) hcj) rfl rfl (Nat.le_of_ble_eq_true rfl) dX8_journey_104 (fun hS_10 => ?_)
          refine wp_run [(.i2d, 1)] (pc' := 108) (L' := [(6, .inr (3, some (xCN (F_X5_seek h a b ti n) 3))), (0, .inr (9, some 0)), (1, .inl (.int a)), (2, .inl (.int b)), (3, .inl (.int ti)), (4, .inl (.int n)), (5, .inl (.int wh))]) (st' := [.inl (.double (FP.i2d ((F_X1_fareOf ((F_X5_tell (F_X5_seek h a b ti n) (n.toNatClampNeg)).2) (xCN (F_X5_seek h a b ti n) 3) (rls ((F_X5_tell (F_X5_seek h a b ti n) (n.toNatClampNeg)).2) (xCN (F_X5_seek h a b ti n) 3))).1)))]) ⟨dX8_journey_107, trivial⟩ rfl rfl ?_
          exact wx_dret rfl rfl dX8_journey_108 (by rw [F_X8_journey, if_pos h_1, if_pos h_2, if_pos h_3, if_neg h_6, if_neg h_7, if_neg h_8, if_neg h_9]; dsimp only; exact ⟨trivial, rfl, rfl⟩)
        · refine wx_ldc2d kc_X8_191 dX8_journey_49 ?_
          exact wx_dret rfl rfl dX8_journey_52 (by rw [F_X8_journey, if_pos h_1, if_pos h_2, if_pos h_3, if_pos h_6]; dsimp only; exact ⟨trivial, rfl, rfl⟩)
      · exact wx_staticT (M := M_X8_journey) (uc := 5) (us := 29) (As := [.inl (.int wh), .inl (.int 0), .inl (.int 3)]) (rest := []) (ok_X8_needRange _ _) ml_X8_50 st_X8_needRange (by omega) (det_to (c_X8_needRange (d := d - 1) (h := h) (by omega) wh 0 3) (fR_no h_3) rfl) rfl rfl (Nat.le_of_ble_eq_true rfl) dX8_journey_18 (cy_out rfl rfl (by rw [F_X8_journey, if_pos h_1, if_pos h_2, if_neg h_3]; dsimp only; exact ⟨trivial, rfl, rfl⟩))
    · exact wx_staticT (M := M_X8_journey) (uc := 6) (us := 35) (As := [.inl (.int n), .inl (.int 1), .inl (.int 4)]) (rest := []) (ok_X8_needRange _ _) ml_X8_50 st_X8_needRange (by omega) (det_to (c_X8_needRange (d := d - 1) (h := h) (by omega) n 1 4) (fR_no h_2) rfl) rfl rfl (Nat.le_of_ble_eq_true rfl) dX8_journey_11 (cy_out rfl rfl (by rw [F_X8_journey, if_pos h_1, if_neg h_2]; dsimp only; exact ⟨trivial, rfl, rfl⟩))
  · exact wx_virtualT (M := M_X8_journey) (uc := 7) (us := 41) (s := 9) (i := 0) (As := [.inl (.int a), .inl (.int b), .inl (.int ti)]) (rest := []) cls_9 rfl (ok_X8_needWay _ _) ml_X8_158 im_X8_needWay se_X8_needWay (by omega) (det_to (c_X8_needWay (d := d - 1) (h := h) (by omega) W a b ti) (fW_no h_1) rfl) rfl rfl (Nat.le_of_ble_eq_true rfl) dX8_journey_4 (cy_out rfl rfl (by rw [F_X8_journey, if_neg h_1]; dsimp only; exact ⟨trivial, rfl, rfl⟩))
def B_X8_best_27 (h : Hp) (a : Int32) (b : Int32) (ti : Int32) (rec27 : Hp → Int32 → UInt64 → Nat → (Rs × Hp)) (h27 : Hp) (ch : Int32) (le : UInt64) (k : Nat) : Rs × Hp := (if 4 < (nI k) then (.inl (some (.inl (.int ch))), h27) else (if (F_X5_tell h27 k).1 = none then (rec27 ((F_X5_tell h27 k).2) ch le (k + 1)) else (if ch = (-1) then (rec27 ((F_X5_tell h27 k).2) (nI k) (F_X2_score ((F_X5_tell h27 k).2) (xCN h27 3) (rls ((F_X5_tell h27 k).2) (xCN h27 3))) (k + 1)) else (if 0 ≤ (Op.cmpValue (FP.dcmp (F_X2_score ((F_X5_tell h27 k).2) (xCN h27 3) (rls ((F_X5_tell h27 k).2) (xCN h27 3))) le) .g) then (rec27 ((F_X5_tell h27 k).2) ch le (k + 1)) else (rec27 ((F_X5_tell h27 k).2) (nI k) (F_X2_score ((F_X5_tell h27 k).2) (xCN h27 3) (rls ((F_X5_tell h27 k).2) (xCN h27 3))) (k + 1))))))
def L_X8_best_27 (h : Hp) (a : Int32) (b : Int32) (ti : Int32) : Nat → Hp → Int32 → UInt64 → Nat → (Rs × Hp)
  | 0 => fun h27 ch le k => (.inl none, h27)
  | fu + 1 => B_X8_best_27 h a b ti (L_X8_best_27 h a b ti fu)
theorem L_X8_best_27_s (h : Hp) (a : Int32) (b : Int32) (ti : Int32) (fu : Nat) (h27 : Hp) (ch : Int32) (le : UInt64) (k : Nat) : L_X8_best_27 h a b ti (fu + 1) h27 ch le k = B_X8_best_27 h a b ti (L_X8_best_27 h a b ti fu) h27 ch le k := rfl
def F_X8_best (h : Hp) (a : Int32) (b : Int32) (ti : Int32) : Rs × Hp := (if okW h a b ti then L_X8_best_27 h a b ti (2147483648 - 1 + 1) (F_X5_seek h a b ti 4) (-1) FP.dconst0 1 else (.inr (eW h a b), h))
set_option maxRecDepth 20000 in
theorem c_X8_best {g : GT} {d : Nat} (hd : 9 ≤ d) {h : Hp} (W : CW h) (a : Int32) (b : Int32) (ti : Int32)  : Ctr g M_X8_best d 24 140 [.inr (9, some 0), .inl (.int a), .inl (.int b), .inl (.int ti)] h (cy_detP (F_X8_best h a b ti).1 (F_X8_best h a b ti).2 (True)) := by
  refine cy_body rfl rfl (by decide) (Nat.le_of_ble_eq_true rfl) ?_
  refine wp_run [(.aload_n 0, 1), (.iload_n 1, 1), (.iload_n 2, 1), (.iload_n 3, 1)] (pc' := 4) (L' := [(0, .inr (9, some 0)), (1, .inl (.int a)), (2, .inl (.int b)), (3, .inl (.int ti))]) (st' := [.inl (.int ti), .inl (.int b), .inl (.int a), .inr (9, some 0)]) ⟨dX8_best_0, dX8_best_1, dX8_best_2, dX8_best_3, trivial⟩ rfl rfl ?_
  by_cases h_1 : okW h a b ti
  · refine wx_virtualD (M := M_X8_best) (uc := 20) (us := 116) (s := 9) (i := 0) (As := [.inl (.int a), .inl (.int b), .inl (.int ti)]) (rest := []) cls_9 rfl (ok_X8_needWay _ _) ml_X8_158 im_X8_needWay se_X8_needWay (by omega) (det_to (c_X8_needWay (d := d - 1) (h := h) (by omega) W a b ti) (fW_ok h_1) rfl) rfl rfl (Nat.le_of_ble_eq_true rfl) dX8_best_4 ?_
    refine wp_run [(.aload_n 0, 1)] (pc' := 8) (L' := [(0, .inr (9, some 0)), (1, .inl (.int a)), (2, .inl (.int b)), (3, .inl (.int ti))]) (st' := [.inr (9, some 0)]) ⟨dX8_best_7, trivial⟩ rfl rfl ?_
    refine wx_getR cls_9 (k := 1) (f := 901) (t := 6) (o := some 0) (by decide) rfl rfl fl_X8_21 (W.fr (f := 901) (by decide)) dX8_best_8 ?_
    refine wp_run [(.iload_n 1, 1), (.iload_n 2, 1), (.iload_n 3, 1), (.iconst 4, 1)] (pc' := 15) (L' := [(0, .inr (9, some 0)), (1, .inl (.int a)), (2, .inl (.int b)), (3, .inl (.int ti))]) (st' := [.inl (.int 4), .inl (.int ti), .inl (.int b), .inl (.int a), .inr (6, some 0)]) ⟨dX8_best_11, dX8_best_12, dX8_best_13, dX8_best_14, trivial⟩ rfl rfl ?_
    refine wx_virtualDP (M := M_X8_best) (uc := 20) (us := 116) (s := 6) (i := 0) (As := [.inl (.int a), .inl (.int b), .inl (.int ti), .inl (.int 4)]) (rest := []) cls_6 rfl (ok_X5_seek _ _) ml_X8_161 im_X5_seek se_X5_seek (by omega) (c_X5_seek (d := d - 1) (h := h) (by omega) W a b ti 4) rfl rfl (Nat.le_of_ble_eq_true rfl) dX8_best_15 (fun hS_2 => ?_)
    refine wp_run [(.iconst (-1), 1), (.istore 4, 2)] (pc' := 21) (L' := [(4, .inl (.int (-1))), (0, .inr (9, some 0)), (1, .inl (.int a)), (2, .inl (.int b)), (3, .inl (.int ti))]) (st' := []) ⟨dX8_best_18, dX8_best_19, trivial⟩ rfl rfl ?_
    refine wx_dconst0 dX8_best_21 ?_
    refine wp_run [(.dstore 5, 2), (.iconst 1, 1), (.istore 7, 2)] (pc' := 27) (L' := [(7, .inl (.int 1)), (5, .inl (.double FP.dconst0)), (4, .inl (.int (-1))), (0, .inr (9, some 0)), (1, .inl (.int a)), (2, .inl (.int b)), (3, .inl (.int ti))]) (st' := []) ⟨dX8_best_22, dX8_best_24, dX8_best_25, trivial⟩ rfl rfl ?_
    rw [F_X8_best, if_pos h_1]
    refine wp_sub [0, 1, 2, 3] (L' := [(7, .inl (.int 1)), (5, .inl (.double FP.dconst0)), (4, .inl (.int (-1))), (0, .inr (9, some 0))]) rfl ?_
    refine WP.room (uc' := (5 - 1) * 5) (us' := (5 - 1) * 29) (by omega) (by omega) ?_
    suffices Y27 : ∀ (n27 : Nat) (h27 : Hp) (ch : Int32) (le : UInt64) (k : Nat) (W27 : CW h27) (hik : k < 2147483648) (hm27 : 2147483648 - k < n27), WP g M_X8_best d ((5 - k) * 5) ((5 - k) * 29) 27 [(7, .inl (.int (nI k))), (5, .inl (.double le)), (4, .inl (.int ch)), (0, .inr (9, some 0))] [] h27 (cy_detP (L_X8_best_27 h a b ti n27 h27 ch le k).1 (L_X8_best_27 h a b ti n27 h27 ch le k).2 (True)) from
      Y27 (2147483648 - 1 + 1) (F_X5_seek h a b ti 4) (-1) FP.dconst0 1 (W.sr hS_2) (by decide) (Nat.lt_succ_self _)
    intro n27
    induction n27 with
    | zero => intro h27 ch le k W27 hik hm27; exact absurd hm27 (Nat.not_lt_zero _)
    | succ n27 ih27 =>
      intro h27 ch le k W27 hik hm27
      rw [L_X8_best_27_s]
      generalize L_X8_best_27 h a b ti n27 = rec27 at ih27 ⊢
      refine wp_run [(.iload 7, 2), (.iconst 4, 1)] (pc' := 30) (L' := [(7, .inl (.int (nI k))), (5, .inl (.double le)), (4, .inl (.int ch)), (0, .inr (9, some 0))]) (st' := [.inl (.int 4), .inl (.int (nI k))]) ⟨dX8_best_27, dX8_best_29, trivial⟩ rfl rfl ?_
      refine wx_icmp_gt (tgt := 83) dX8_best_30 (by decide) (fun h_3 => ?_) (fun h_3 => ?_)
      · refine wp_run [(.iload 4, 2)] (pc' := 85) (L' := [(7, .inl (.int (nI k))), (5, .inl (.double le)), (4, .inl (.int ch)), (0, .inr (9, some 0))]) (st' := [.inl (.int ch)]) ⟨dX8_best_83, trivial⟩ rfl rfl ?_
        exact wx_iret rfl rfl dX8_best_85 (by rw [B_X8_best_27, if_pos h_3]; dsimp only; exact ⟨trivial, rfl, rfl⟩)
      · have hk4 := cy_le4 hik h_3
        skip
        refine wp_run [(.aload_n 0, 1)] (pc' := 34) (L' := [(7, .inl (.int (nI k))), (5, .inl (.double le)), (4, .inl (.int ch)), (0, .inr (9, some 0))]) (st' := [.inr (9, some 0)]) ⟨dX8_best_33, trivial⟩ rfl rfl ?_
        refine wx_getR cls_9 (k := 1) (f := 901) (t := 6) (o := some 0) (by decide) rfl rfl fl_X8_21 (W27.fr (f := 901) (by decide)) dX8_best_34 ?_
        refine wp_run [(.iload 7, 2)] (pc' := 39) (L' := [(7, .inl (.int (nI k))), (5, .inl (.double le)), (4, .inl (.int ch)), (0, .inr (9, some 0))]) (st' := [.inl (.int (nI k)), .inr (6, some 0)]) ⟨dX8_best_37, trivial⟩ rfl rfl ?_
        refine WP.room (uc' := (4 - k) * 5 + 5) (us' := (4 - k) * 29 + 29) (by omega) (by omega) ?_
        refine wx_virtualDP (M := M_X8_best) (uc := (4 - k) * 5) (us := (4 - k) * 29) (s := 6) (i := 0) (As := [.inl (.int (nI k))]) (rest := []) cls_6 rfl (ok_X5_tell _ _) ml_X8_177 im_X5_tell se_X5_tell (by omega) (c_X5_tell (d := d - 1) (h := h27) (by omega) W27 hk4) rfl rfl (Nat.le_of_ble_eq_true rfl) dX8_best_39 (fun hS_4 => ?_)
        refine wp_run [(.astore 8, 2), (.aload 8, 2)] (pc' := 46) (L' := [(8, .inr (3, (F_X5_tell h27 k).1)), (7, .inl (.int (nI k))), (5, .inl (.double le)), (4, .inl (.int ch)), (0, .inr (9, some 0))]) (st' := [.inr (3, (F_X5_tell h27 k).1)]) ⟨dX8_best_42, dX8_best_44, trivial⟩ rfl rfl ?_
        refine wx_ifnullP (tgt := 77) dX8_best_46 (by decide) (fun h_5 => ?_) (fun h_5 => ?_)
        · refine wp_run [(.iinc 7 1, 3)] (pc' := 80) (L' := [(7, .inl (.int ((nI k) + 1))), (8, .inr (3, (F_X5_tell h27 k).1)), (5, .inl (.double le)), (4, .inl (.int ch)), (0, .inr (9, some 0))]) (st' := []) ⟨dX8_best_77, trivial⟩ rfl rfl ?_
          refine wx_goto (tgt := 27) dX8_best_80 (by decide) ?_
          rw [B_X8_best_27, if_neg h_3, if_pos h_5]
          rw [nI_1 k]
          refine WP.room (uc' := (5 - (k + 1)) * 5) (us' := (5 - (k + 1)) * 29) (by omega) (by omega) ?_
          refine wp_sub [0, 2, 3, 4] (L' := [(7, .inl (.int (nI (k + 1)))), (5, .inl (.double le)), (4, .inl (.int ch)), (0, .inr (9, some 0))]) rfl ?_
          exact ih27 _ _ _ _ (tell_W W27 hk4) (cy_nle hik (Int32.not_lt.mp h_3) (by decide)).2 (by have := (cy_nle hik (Int32.not_lt.mp h_3) (by decide)).2; omega)
        · obtain ⟨he, hcj⟩ := tell_some W27 hk4 h_5
          rw [he]
          skip
          refine wp_run [(.iload 4, 2), (.iconst (-1), 1)] (pc' := 52) (L' := [(8, .inr (3, some (xCN h27 3))), (7, .inl (.int (nI k))), (5, .inl (.double le)), (4, .inl (.int ch)), (0, .inr (9, some 0))]) (st' := [.inl (.int (-1)), .inl (.int ch)]) ⟨dX8_best_49, dX8_best_51, trivial⟩ rfl rfl ?_
          refine wx_icmp_eq (tgt := 66) dX8_best_52 (by decide) (fun h_6 => ?_) (fun h_6 => ?_)
          · refine wp_run [(.iload 7, 2), (.istore 4, 2), (.aload 8, 2)] (pc' := 72) (L' := [(4, .inl (.int (nI k))), (8, .inr (3, some (xCN h27 3))), (7, .inl (.int (nI k))), (5, .inl (.double le)), (0, .inr (9, some 0))]) (st' := [.inr (3, some (xCN h27 3))]) ⟨dX8_best_66, dX8_best_68, dX8_best_70, trivial⟩ rfl rfl ?_
            refine wx_virtualD (M := M_X8_best) (uc := (4 - k) * 5) (us := (4 - k) * 29) (s := 3) (i := (xCN h27 3)) (As := []) (rest := []) cls_3 rfl (ok_X2_score _ _) ml_X8_200 im_X2_score se_X2_score (by omega) (c_X2_score (d := d - 1) (h := ((F_X5_tell h27 k).2)) (by omega) (tell_W W27 hk4) hcj (rls_len _ _)) rfl rfl (Nat.le_of_ble_eq_true rfl) dX8_best_72 ?_
            refine wp_run [(.dstore 5, 2), (.iinc 7 1, 3)] (pc' := 80) (L' := [(7, .inl (.int ((nI k) + 1))), (5, .inl (.double (F_X2_score ((F_X5_tell h27 k).2) (xCN h27 3) (rls ((F_X5_tell h27 k).2) (xCN h27 3))))), (4, .inl (.int (nI k))), (8, .inr (3, some (xCN h27 3))), (0, .inr (9, some 0))]) (st' := []) ⟨dX8_best_75, dX8_best_77, trivial⟩ rfl rfl ?_
            refine wx_goto (tgt := 27) dX8_best_80 (by decide) ?_
            rw [B_X8_best_27, if_neg h_3, if_neg h_5, if_pos h_6]
            rw [nI_1 k]
            refine WP.room (uc' := (5 - (k + 1)) * 5) (us' := (5 - (k + 1)) * 29) (by omega) (by omega) ?_
            refine wp_sub [0, 1, 2, 4] (L' := [(7, .inl (.int (nI (k + 1)))), (5, .inl (.double (F_X2_score ((F_X5_tell h27 k).2) (xCN h27 3) (rls ((F_X5_tell h27 k).2) (xCN h27 3))))), (4, .inl (.int (nI k))), (0, .inr (9, some 0))]) rfl ?_
            exact ih27 _ _ _ _ (tell_W W27 hk4) (cy_nle hik (Int32.not_lt.mp h_3) (by decide)).2 (by have := (cy_nle hik (Int32.not_lt.mp h_3) (by decide)).2; omega)
          · refine wp_run [(.aload 8, 2)] (pc' := 57) (L' := [(8, .inr (3, some (xCN h27 3))), (7, .inl (.int (nI k))), (5, .inl (.double le)), (4, .inl (.int ch)), (0, .inr (9, some 0))]) (st' := [.inr (3, some (xCN h27 3))]) ⟨dX8_best_55, trivial⟩ rfl rfl ?_
            refine wx_virtualD (M := M_X8_best) (uc := (4 - k) * 5) (us := (4 - k) * 29) (s := 3) (i := (xCN h27 3)) (As := []) (rest := []) cls_3 rfl (ok_X2_score _ _) ml_X8_200 im_X2_score se_X2_score (by omega) (c_X2_score (d := d - 1) (h := ((F_X5_tell h27 k).2)) (by omega) (tell_W W27 hk4) hcj (rls_len _ _)) rfl rfl (Nat.le_of_ble_eq_true rfl) dX8_best_57 ?_
            refine wp_run [(.dload 5, 2), (.dcmp .g, 1)] (pc' := 63) (L' := [(8, .inr (3, some (xCN h27 3))), (7, .inl (.int (nI k))), (5, .inl (.double le)), (4, .inl (.int ch)), (0, .inr (9, some 0))]) (st' := [.inl (.int (Op.cmpValue (FP.dcmp (F_X2_score ((F_X5_tell h27 k).2) (xCN h27 3) (rls ((F_X5_tell h27 k).2) (xCN h27 3))) le) .g))]) ⟨dX8_best_60, dX8_best_62, trivial⟩ rfl rfl ?_
            refine wx_if_ge (tgt := 77) dX8_best_63 (by decide) (fun h_7 => ?_) (fun h_7 => ?_)
            · refine wp_run [(.iinc 7 1, 3)] (pc' := 80) (L' := [(7, .inl (.int ((nI k) + 1))), (8, .inr (3, some (xCN h27 3))), (5, .inl (.double le)), (4, .inl (.int ch)), (0, .inr (9, some 0))]) (st' := []) ⟨dX8_best_77, trivial⟩ rfl rfl ?_
              refine wx_goto (tgt := 27) dX8_best_80 (by decide) ?_
              rw [B_X8_best_27, if_neg h_3, if_neg h_5, if_neg h_6, if_pos h_7]
              rw [nI_1 k]
              refine WP.room (uc' := (5 - (k + 1)) * 5) (us' := (5 - (k + 1)) * 29) (by omega) (by omega) ?_
              refine wp_sub [0, 2, 3, 4] (L' := [(7, .inl (.int (nI (k + 1)))), (5, .inl (.double le)), (4, .inl (.int ch)), (0, .inr (9, some 0))]) rfl ?_
              exact ih27 _ _ _ _ (tell_W W27 hk4) (cy_nle hik (Int32.not_lt.mp h_3) (by decide)).2 (by have := (cy_nle hik (Int32.not_lt.mp h_3) (by decide)).2; omega)
            · refine wp_run [(.iload 7, 2), (.istore 4, 2), (.aload 8, 2)] (pc' := 72) (L' := [(4, .inl (.int (nI k))), (8, .inr (3, some (xCN h27 3))), (7, .inl (.int (nI k))), (5, .inl (.double le)), (0, .inr (9, some 0))]) (st' := [.inr (3, some (xCN h27 3))]) ⟨dX8_best_66, dX8_best_68, dX8_best_70, trivial⟩ rfl rfl ?_
              refine wx_virtualD (M := M_X8_best) (uc := (4 - k) * 5) (us := (4 - k) * 29) (s := 3) (i := (xCN h27 3)) (As := []) (rest := []) cls_3 rfl (ok_X2_score _ _) ml_X8_200 im_X2_score se_X2_score (by omega) (c_X2_score (d := d - 1) (h := ((F_X5_tell h27 k).2)) (by omega) (tell_W W27 hk4) hcj (rls_len _ _)) rfl rfl (Nat.le_of_ble_eq_true rfl) dX8_best_72 ?_
              refine wp_run [(.dstore 5, 2), (.iinc 7 1, 3)] (pc' := 80) (L' := [(7, .inl (.int ((nI k) + 1))), (5, .inl (.double (F_X2_score ((F_X5_tell h27 k).2) (xCN h27 3) (rls ((F_X5_tell h27 k).2) (xCN h27 3))))), (4, .inl (.int (nI k))), (8, .inr (3, some (xCN h27 3))), (0, .inr (9, some 0))]) (st' := []) ⟨dX8_best_75, dX8_best_77, trivial⟩ rfl rfl ?_
              refine wx_goto (tgt := 27) dX8_best_80 (by decide) ?_
              rw [B_X8_best_27, if_neg h_3, if_neg h_5, if_neg h_6, if_neg h_7]
              rw [nI_1 k]
              refine WP.room (uc' := (5 - (k + 1)) * 5) (us' := (5 - (k + 1)) * 29) (by omega) (by omega) ?_
              refine wp_sub [0, 1, 2, 4] (L' := [(7, .inl (.int (nI (k + 1)))), (5, .inl (.double (F_X2_score ((F_X5_tell h27 k).2) (xCN h27 3) (rls ((F_X5_tell h27 k).2) (xCN h27 3))))), (4, .inl (.int (nI k))), (0, .inr (9, some 0))]) rfl ?_
              exact ih27 _ _ _ _ (tell_W W27 hk4) (cy_nle hik (Int32.not_lt.mp h_3) (by decide)).2 (by have := (cy_nle hik (Int32.not_lt.mp h_3) (by decide)).2; omega)
  · exact wx_virtualT (M := M_X8_best) (uc := 20) (us := 116) (s := 9) (i := 0) (As := [.inl (.int a), .inl (.int b), .inl (.int ti)]) (rest := []) cls_9 rfl (ok_X8_needWay _ _) ml_X8_158 im_X8_needWay se_X8_needWay (by omega) (det_to (c_X8_needWay (d := d - 1) (h := h) (by omega) W a b ti) (fW_no h_1) rfl) rfl rfl (Nat.le_of_ble_eq_true rfl) dX8_best_4 (cy_out rfl rfl (by rw [F_X8_best, if_neg h_1]; dsimp only; exact ⟨trivial, rfl, rfl⟩))
