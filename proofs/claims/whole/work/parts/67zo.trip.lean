/-! ===== own: a new trip ===== -/
theorem rem7 {d : Nat} (hd : d < 1000) : nI d - nI d / 7 * 7 = nI (d % 7) := by
  rw [show (7 : Int32) = nI 7 from rfl, nI_quo (by decide) (by omega), nI_mul]
  have e : nI d = nI (d / 7 * 7) + nI (d % 7) := by
    rw [nI_add]
    congr 1
    omega
  rw [e, Int32.add_comm, Int32.add_sub_cancel]
/-- whether a trip of these days runs, by its days alone -/
def wkB (da d : Nat) : Int32 := if (nI da &&& ((1 : Int32) <<< ((nI d - nI d / 7 * 7) &&& 31))) = 0 then 0 else 1
theorem wk_all : ∀ a, a < 128 → ∀ w, w < 7 → (if (nI a &&& ((1 : Int32) <<< (nI w &&& 31))) = 0 then (0 : Int32) else 1) = if ((nI a >>> (nI w &&& 31)) &&& 1) = 1 then 1 else 0 := by decide +kernel
theorem wkB_run {da d : Nat} (hda : da < 128) (hd : d < 100) : wkB da d = if (((nI da) >>> ((nI d - nI d / 7 * 7) &&& 31)) &&& 1) = 1 then 1 else 0 := by
  unfold wkB
  rw [rem7 (by omega)]
  exact wk_all da hda (d % 7) (Nat.mod_lt _ (by decide))
theorem setWeek_spec {H : Hp} {t da : Nat} : SR H (F_X7_setWeek H t (nI da)) ∧ (∀ f i, xFI (F_X7_setWeek H t (nI da)) f i = xFI H f i) ∧ ∀ s i j, xAI (F_X7_setWeek H t (nI da)) s i j = if s = 31 ∧ i = t ∧ j < 100 then wkB da j else xAI H s i j := by
  have key : ∀ (m dy fu : Nat) (X : Hp), dy + m = 100 → m < fu → SR H X → (∀ f i, xFI X f i = xFI H f i) → (∀ s i j, xAI X s i j = if s = 31 ∧ i = t ∧ j < dy then wkB da j else xAI H s i j) →
      SR H (L_X7_setWeek_2 H t (nI da) (K_X7_setWeek_2 H t (nI da)) fu X dy) ∧ (∀ f i, xFI (L_X7_setWeek_2 H t (nI da) (K_X7_setWeek_2 H t (nI da)) fu X dy) f i = xFI H f i) ∧ ∀ s i j, xAI (L_X7_setWeek_2 H t (nI da) (K_X7_setWeek_2 H t (nI da)) fu X dy) s i j = if s = 31 ∧ i = t ∧ j < 100 then wkB da j else xAI H s i j := by
    intro m
    induction m with
    | zero =>
      intro dy fu X hd hf x1 x2 x3
      obtain ⟨fu, rfl⟩ : ∃ g, fu = g + 1 := ⟨fu - 1, by omega⟩
      obtain rfl : dy = 100 := by omega
      rw [L_X7_setWeek_2_s]
      unfold B_X7_setWeek_2
      rw [if_pos (by decide)]
      exact ⟨x1, x2, x3⟩
    | succ m ih =>
      intro dy fu X hd hf x1 x2 x3
      obtain ⟨fu, rfl⟩ : ∃ g, fu = g + 1 := ⟨fu - 1, by omega⟩
      rw [L_X7_setWeek_2_s]
      unfold B_X7_setWeek_2
      rw [if_neg (fun z => by
        have := (nI_leI (a := 100) (b := dy) (by decide) (by omega)).mp z
        omega)]
      have nxt : ∀ v, v = wkB da dy → ∀ s i j, xAI (sAI X 31 t dy v) s i j = if s = 31 ∧ i = t ∧ j < dy + 1 then wkB da j else xAI H s i j := fun v hv s i j => by
        rw [ai_ai, x3]
        by_cases c : s = 31 ∧ i = t ∧ j = dy
        · obtain ⟨c1, c2, rfl⟩ := c
          rw [if_pos ⟨c1, c2, rfl⟩, if_pos ⟨c1, c2, by omega⟩, hv]
        · rw [if_neg c]
          by_cases c2 : s = 31 ∧ i = t ∧ j < dy
          · rw [if_pos c2, if_pos ⟨c2.1, c2.2.1, by omega⟩]
          · rw [if_neg c2, if_neg (fun z => by
              rcases Nat.lt_or_ge j dy with w | w
              · exact c2 ⟨z.1, z.2.1, w⟩
              · exact c ⟨z.1, z.2.1, by omega⟩)]
      by_cases c : (nI da &&& ((1 : Int32) <<< ((nI dy - nI dy / 7 * 7) &&& 31))) = 0
      · rw [if_pos c]
        exact ih (dy + 1) fu _ (by omega) (by omega) (x1.trans ⟨rfl, rfl⟩) x2 (nxt 0 (by unfold wkB; rw [if_pos c]))
      · rw [if_neg c]
        exact ih (dy + 1) fu _ (by omega) (by omega) (x1.trans ⟨rfl, rfl⟩) x2 (nxt 1 (by unfold wkB; rw [if_neg c]))
  exact key 100 0 _ H (by omega) (by omega) SR.rf (fun _ _ => rfl) (fun s i j => by rw [if_neg (by omega)])
theorem nw_ai {H : Hp} {s0 k j : Nat} {v : Option Nat} {x a b : Nat} : xAI (sFR (sNA H s0) k j v) x a b = if x = s0 ∧ a = xCN H s0 then 0 else xAI H x a b := rfl
theorem nw_ne {H : Hp} {s0 k j : Nat} {v : Option Nat} {x : Nat} (hx : x ≠ s0) : xCN (sFR (sNA H s0) k j v) x = xCN H x := if_neg hx
theorem nw_eq {H : Hp} {s0 k j : Nat} {v : Option Nat} : xCN (sFR (sNA H s0) k j v) s0 = xCN H s0 + 1 := if_pos rfl
theorem ti_ai {h : Hp} {i : Nat} {nu mo fi se : Int32} (hc : ∀ s, 28 ≤ s → s ≤ 33 → xCN (sNO h 8) s = i) (s a b : Nat) : xAI (F_X7_init (sNO h 8) i nu mo fi se) s a b = if 28 ≤ s ∧ s ≤ 33 ∧ a = i then 0 else xAI h s a b := by
  unfold F_X7_init
  rw [ai_fi, ai_fi, ai_fi, ai_fi, nw_ai, nw_ai, nw_ai, nw_ai, nw_ai, nw_ai]
  rw [nw_ne (x := 33) (s0 := 32) (by decide), nw_ne (x := 33) (s0 := 31) (by decide), nw_ne (x := 33) (s0 := 30) (by decide), nw_ne (x := 33) (s0 := 29) (by decide), nw_ne (x := 33) (s0 := 28) (by decide),
    nw_ne (x := 32) (s0 := 31) (by decide), nw_ne (x := 32) (s0 := 30) (by decide), nw_ne (x := 32) (s0 := 29) (by decide), nw_ne (x := 32) (s0 := 28) (by decide),
    nw_ne (x := 31) (s0 := 30) (by decide), nw_ne (x := 31) (s0 := 29) (by decide), nw_ne (x := 31) (s0 := 28) (by decide), nw_ne (x := 30) (s0 := 29) (by decide), nw_ne (x := 30) (s0 := 28) (by decide), nw_ne (x := 29) (s0 := 28) (by decide),
    hc 33 (by decide) (by decide), hc 32 (by decide) (by decide), hc 31 (by decide) (by decide), hc 30 (by decide) (by decide), hc 29 (by decide) (by decide), hc 28 (by decide) (by decide)]
  have e0 : xAI (sNO h 8) s a b = xAI h s a b := rfl
  rw [e0]
  by_cases q : a = i
  · by_cases c : 28 ≤ s ∧ s ≤ 33
    · rw [if_pos (c := 28 ≤ s ∧ s ≤ 33 ∧ a = i) ⟨c.1, c.2, q⟩]
      rcases (show s = 33 ∨ s = 32 ∨ s = 31 ∨ s = 30 ∨ s = 29 ∨ s = 28 by omega) with w | w | w | w | w | w
      · rw [if_pos ⟨w, q⟩]
      · rw [if_neg (by omega), if_pos ⟨w, q⟩]
      · rw [if_neg (by omega), if_neg (by omega), if_pos ⟨w, q⟩]
      · rw [if_neg (by omega), if_neg (by omega), if_neg (by omega), if_pos ⟨w, q⟩]
      · rw [if_neg (by omega), if_neg (by omega), if_neg (by omega), if_neg (by omega), if_pos ⟨w, q⟩]
      · rw [if_neg (by omega), if_neg (by omega), if_neg (by omega), if_neg (by omega), if_neg (by omega), if_pos ⟨w, q⟩]
    · rw [if_neg (by omega), if_neg (by omega), if_neg (by omega), if_neg (by omega), if_neg (by omega), if_neg (by omega), if_neg (by omega)]
  · rw [if_neg (fun z => q z.2), if_neg (fun z => q z.2), if_neg (fun z => q z.2), if_neg (fun z => q z.2), if_neg (fun z => q z.2), if_neg (fun z => q z.2), if_neg (fun z => q z.2.2)]
theorem ti_fi {h : Hp} {i : Nat} {nu mo fi se : Int32} (hi : i = xCN h 8) (f j : Nat) : xFI (F_X7_init (sNO h 8) i nu mo fi se) f j = if f / 100 = 8 ∧ j = i then (if f = 803 then se else if f = 802 then fi else if f = 801 then mo else if f = 800 then nu else 0) else xFI h f j := by
  unfold F_X7_init
  rw [fi_fi, fi_fi, fi_fi, fi_fi]
  have e0 : ∀ {X : Hp} {s0 k a : Nat} {v : Option Nat}, xFI (sFR (sNA X s0) k a v) f j = xFI X f j := rfl
  rw [e0, e0, e0, e0, e0, e0]
  have e1 : xFI (sNO h 8) f j = if f / 100 = 8 ∧ j = xCN h 8 then 0 else xFI h f j := rfl
  rw [e1, ← hi]
  by_cases q : j = i
  · by_cases c3 : f = 803
    · rw [if_pos ⟨c3, q⟩, if_pos ⟨by omega, q⟩, if_pos c3]
    by_cases c2 : f = 802
    · rw [if_neg (by omega), if_pos ⟨c2, q⟩, if_pos (c := f / 100 = 8 ∧ j = i) ⟨by omega, q⟩, if_neg c3, if_pos c2]
    by_cases c1 : f = 801
    · rw [if_neg (by omega), if_neg (by omega), if_pos ⟨c1, q⟩, if_pos (c := f / 100 = 8 ∧ j = i) ⟨by omega, q⟩, if_neg c3, if_neg c2, if_pos c1]
    by_cases c0 : f = 800
    · rw [if_neg (by omega), if_neg (by omega), if_neg (by omega), if_pos ⟨c0, q⟩, if_pos (c := f / 100 = 8 ∧ j = i) ⟨by omega, q⟩, if_neg c3, if_neg c2, if_neg c1, if_pos c0]
    · rw [if_neg (by omega), if_neg (by omega), if_neg (by omega), if_neg (by omega)]
      by_cases w : f / 100 = 8 ∧ j = i
      · rw [if_pos w, if_pos w, if_neg c3, if_neg c2, if_neg c1, if_neg c0]
      · rw [if_neg w, if_neg w]
  · rw [if_neg (fun z => q z.2), if_neg (fun z => q z.2), if_neg (fun z => q z.2), if_neg (fun z => q z.2), if_neg (fun z => q z.2), if_neg (fun z => q z.2)]
theorem ti_fr2 {h : Hp} {i : Nat} {nu mo fi se : Int32} (hi : i = xCN h 8) {f j : Nat} (hj : j ≠ i) : xFR (F_X7_init (sNO h 8) i nu mo fi se) f j = xFR h f j := by
  have a : ∀ k, ¬ (f = k ∧ j = i) := fun k q => hj q.2
  show up2 (up2 (up2 (up2 (up2 (up2 (sNO h 8).2.1 804 i _) 805 i _) 806 i _) 807 i _) 808 i _) 809 i _ f j = _
  unfold up2
  rw [if_neg (a 809), if_neg (a 808), if_neg (a 807), if_neg (a 806), if_neg (a 805), if_neg (a 804)]
  show (if f / 100 = 8 ∧ j = h.2.2.2.1 8 then none else h.2.1 f j) = _
  rw [if_neg (fun q => hj (q.2.trans hi.symm))]
  rfl
theorem ti_cn {h : Hp} {i : Nat} {nu mo fi se : Int32} (x : Nat) : xCN (F_X7_init (sNO h 8) i nu mo fi se) x = if x = 8 ∨ (28 ≤ x ∧ x ≤ 33) then xCN h x + 1 else xCN h x := by
  have u : ∀ {g : Nat → Nat} {s0 : Nat}, x ≠ s0 → up1 g s0 (g s0 + 1) x = g x := fun hx => if_neg hx
  have e : ∀ {g : Nat → Nat} {s0 : Nat}, x = s0 → up1 g s0 (g s0 + 1) x = g x + 1 := fun hx => by
    subst hx
    exact if_pos rfl
  show up1 (up1 (up1 (up1 (up1 (up1 (up1 h.2.2.2.1 8 (h.2.2.2.1 8 + 1)) 28 _) 29 _) 30 _) 31 _) 32 _) 33 _ x = if x = 8 ∨ (28 ≤ x ∧ x ≤ 33) then h.2.2.2.1 x + 1 else h.2.2.2.1 x
  by_cases c : x = 8 ∨ (28 ≤ x ∧ x ≤ 33)
  · rw [if_pos c]
    rcases (show x = 8 ∨ x = 33 ∨ x = 32 ∨ x = 31 ∨ x = 30 ∨ x = 29 ∨ x = 28 by omega) with w | w | w | w | w | w | w
    · refine (u (by omega)).trans ((u (by omega)).trans ((u (by omega)).trans ((u (by omega)).trans ((u (by omega)).trans ((u (by omega)).trans (e w))))))
    · refine (e w).trans ?_
      exact congrArg (· + 1) ((u (by omega)).trans ((u (by omega)).trans ((u (by omega)).trans ((u (by omega)).trans ((u (by omega)).trans (u (by omega)))))))
    · refine (u (by omega)).trans ((e w).trans ?_)
      exact congrArg (· + 1) ((u (by omega)).trans ((u (by omega)).trans ((u (by omega)).trans ((u (by omega)).trans (u (by omega))))))
    · refine (u (by omega)).trans ((u (by omega)).trans ((e w).trans ?_))
      exact congrArg (· + 1) ((u (by omega)).trans ((u (by omega)).trans ((u (by omega)).trans (u (by omega)))))
    · refine (u (by omega)).trans ((u (by omega)).trans ((u (by omega)).trans ((e w).trans ?_)))
      exact congrArg (· + 1) ((u (by omega)).trans ((u (by omega)).trans (u (by omega))))
    · refine (u (by omega)).trans ((u (by omega)).trans ((u (by omega)).trans ((u (by omega)).trans ((e w).trans ?_))))
      exact congrArg (· + 1) ((u (by omega)).trans (u (by omega)))
    · refine (u (by omega)).trans ((u (by omega)).trans ((u (by omega)).trans ((u (by omega)).trans ((u (by omega)).trans ((e w).trans ?_)))))
      exact congrArg (· + 1) (u (by omega))
  · rw [if_neg c]
    exact (u (by omega)).trans ((u (by omega)).trans ((u (by omega)).trans ((u (by omega)).trans ((u (by omega)).trans ((u (by omega)).trans (u (by omega)))))))
theorem ad_ls {h : Hp} {s e x : Nat} : xLS (H_add h s e) x = if x = s + 2 then cy_cap (sFI h (100 * s) 0 (xFI h (100 * s) 0 + 1)) s else if x = s then xLS h s + 1 else xLS h x := rfl
theorem ad_le {h : Hp} {s e x j : Nat} : xLE (H_add h s e) x j = if x = s ∧ j = xLS h s then e else xLE h x j := rfl
theorem ad_cn {h : Hp} {s e x : Nat} : xCN (H_add h s e) x = if x = s + 2 then 1 else xCN h x := rfl
theorem ad_fi {h : Hp} {s e f j : Nat} (hf : f ≠ 100 * s) : xFI (H_add h s e) f j = xFI h f j := if_neg (fun z => hf z.1)
theorem ad_fr {h : Hp} {s e : Nat} : xFR (H_add h s e) = xFR h := rfl
theorem ad_ai {h : Hp} {s e : Nat} : xAI (H_add h s e) = xAI h := rfl
/-- what the class's new trip leaves: place t, the heap H -/
def NewT (h H : Hp) (t mo fi se da s0 mi : Nat) : Prop :=
  ((∀ f i, f / 100 ≠ 8 ∨ i ≠ t → xFR H f i = xFR h f i) ∧ TOk H t) ∧
  ((∀ f i, f / 100 ≠ 8 ∨ i ≠ t → f ≠ 1100 → xFI H f i = xFI h f i) ∧ xFI H 800 t = nI t ∧ xFI H 801 t = nI mo ∧ xFI H 802 t = nI fi ∧ xFI H 803 t = nI se ∧ xFI H 810 t = nI 1 ∧ xFI H 811 t = nI 0) ∧
  ((∀ s i j, (s < 28 ∨ 33 < s) ∨ i ≠ t → xAI H s i j = xAI h s i j) ∧ xAI H 28 t 0 = nI s0 ∧ xAI H 30 t 0 = nI mi ∧ (∀ d, d < 100 → xAI H 31 t d = wkB da d) ∧ ∀ d, xAI H 32 t d = 0) ∧
  (xLS H 11 = t + 1 ∧ xLS H 12 = xLS h 12 ∧ xLS H 16 = xLS h 16) ∧ ((∀ j, xLE H 11 j = if j = t then t else xLE h 11 j) ∧ ∀ j, xLE H 12 j = xLE h 12 j) ∧
  ∀ x, x ≠ 13 → xCN H x = if x = 8 ∨ (28 ≤ x ∧ x ≤ 33) then t + 1 else xCN h x
theorem tripC {h : Hp} (C : CN h) {mo fi se da s0 mi : Nat} : NewT h (H_add (F_X7_begin (F_X7_setWeek (F_X7_init (sNO h 8) (xCN h 8) (nI (xLS h 11)) (nI mo) (nI fi) (nI se)) (xCN h 8) (nI da)) (xCN h 8) (nI s0) (nI mi)) 11 (xCN h 8)) (xLS h 11) mo fi se da s0 mi := by
  have e8 := C.1
  have hc : ∀ s, 28 ≤ s → s ≤ 33 → xCN (sNO h 8) s = xLS h 11 := fun s h1 h2 => by
    rw [cn_sNO8 h1]
    exact C.2.1 s h1 h2
  rw [e8]
  have a0 := ti_ai (nu := nI (xLS h 11)) (mo := nI mo) (fi := nI fi) (se := nI se) hc
  have f0 := ti_fi (h := h) (i := xLS h 11) (nu := nI (xLS h 11)) (mo := nI mo) (fi := nI fi) (se := nI se) e8.symm
  have r1 : ∀ f i, f / 100 ≠ 8 ∨ i ≠ xLS h 11 → xFR (F_X7_init (sNO h 8) (xLS h 11) (nI (xLS h 11)) (nI mo) (nI fi) (nI se)) f i = xFR h f i := fun f i q => by
    rcases q with q | q
    · exact ti_fr q
    · exact ti_fr2 e8.symm q
  have r2 : TOk (F_X7_init (sNO h 8) (xLS h 11) (nI (xLS h 11)) (nI mo) (nI fi) (nI se)) (xLS h 11) := ti_tok hc
  have c0 := ti_cn (h := h) (i := xLS h 11) (nu := nI (xLS h 11)) (mo := nI mo) (fi := nI fi) (se := nI se)
  have l0 : (F_X7_init (sNO h 8) (xLS h 11) (nI (xLS h 11)) (nI mo) (nI fi) (nI se)).2.2.2.2 = h.2.2.2.2 := rfl
  generalize F_X7_init (sNO h 8) (xLS h 11) (nI (xLS h 11)) (nI mo) (nI fi) (nI se) = H0 at a0 f0 r1 r2 c0 l0
  obtain ⟨w1, w2, w3⟩ := setWeek_spec (H := H0) (t := xLS h 11) (da := da)
  generalize F_X7_setWeek H0 (xLS h 11) (nI da) = HW at w1 w2 w3
  have eb : F_X7_begin HW (xLS h 11) (nI s0) (nI mi) = sFI (sAI (sAI (sAI HW 28 (xLS h 11) 0 (nI s0)) 29 (xLS h 11) 0 (nI mi)) 30 (xLS h 11) 0 (nI mi)) 810 (xLS h 11) 1 := by
    unfold F_X7_begin
    rw [show (0 : Int32) = nI 0 from rfl, put_in _ (n := 6) (by decide) rfl (by decide) (by decide), put_in _ (n := 6) (by decide) rfl (by decide) (by decide), put_in _ (n := 6) (by decide) rfl (by decide) (by decide)]
  rw [eb]
  have l1 : xLS HW = xLS h := congrArg (fun x => x.2.2.1) (show HW.2.2.2 = H0.2.2.2 from w1.2) |>.trans (congrArg (fun x => x.2.1) l0)
  have l2 : xLE HW = xLE h := congrArg (fun x => x.2.1) (show HW.2.2.2 = H0.2.2.2 from w1.2) |>.trans (congrArg (fun x => x.1) l0)
  have l3 : xCN HW = xCN H0 := congrArg (fun x => x.1) (show HW.2.2.2 = H0.2.2.2 from w1.2)
  have l4 : xFR HW = xFR H0 := w1.1
  refine ⟨⟨fun f i q => ?_, fun f hf => ?_⟩, ⟨fun f i q hq => ?_, ?_, ?_, ?_, ?_, ?_, ?_⟩, ⟨fun s i j q => ?_, ?_, ?_, fun d hd => ?_, fun d => ?_⟩, ⟨?_, ?_, ?_⟩, ⟨fun j => ?_, fun j => ?_⟩, fun x hx => ?_⟩
  · rw [ad_fr]
    show xFR HW f i = _
    rw [l4, r1 f i q]
  · rw [ad_fr]
    show xFR HW f _ = _
    rw [l4]
    exact r2 f hf
  · rw [ad_fi hq, fi_fi, if_neg (by omega), fi_ai, fi_ai, fi_ai, w2, f0, if_neg (by omega)]
  · rw [ad_fi (by decide), fi_ne (by decide), fi_ai, fi_ai, fi_ai, w2, f0, if_pos ⟨rfl, rfl⟩, if_neg (by decide), if_neg (by decide), if_neg (by decide), if_pos rfl]
  · rw [ad_fi (by decide), fi_ne (by decide), fi_ai, fi_ai, fi_ai, w2, f0, if_pos ⟨rfl, rfl⟩, if_neg (by decide), if_neg (by decide), if_pos rfl]
  · rw [ad_fi (by decide), fi_ne (by decide), fi_ai, fi_ai, fi_ai, w2, f0, if_pos ⟨rfl, rfl⟩, if_neg (by decide), if_pos rfl]
  · rw [ad_fi (by decide), fi_ne (by decide), fi_ai, fi_ai, fi_ai, w2, f0, if_pos ⟨rfl, rfl⟩, if_pos rfl]
  · rw [ad_fi (by decide), fi_eq]
    rfl
  · rw [ad_fi (by decide), fi_ne (by decide), fi_ai, fi_ai, fi_ai, w2, f0, if_pos ⟨rfl, rfl⟩, if_neg (by decide), if_neg (by decide), if_neg (by decide), if_neg (by decide)]
    rfl
  · rw [ad_ai, ai_fi, ai_ai, if_neg (by omega), ai_ai, if_neg (by omega), ai_ai, if_neg (by omega), w3, if_neg (by omega), a0, if_neg (by omega)]
  · rw [ad_ai, ai_fi, ai_ne (by decide), ai_ne (by decide), ai_eq]
  · rw [ad_ai, ai_fi, ai_eq]
  · rw [ad_ai, ai_fi, ai_ne (by decide), ai_ne (by decide), ai_ne (by decide), w3, if_pos ⟨rfl, rfl, hd⟩]
  · rw [ad_ai, ai_fi, ai_ne (by decide), ai_ne (by decide), ai_ne (by decide), w3, if_neg (by omega), a0, if_pos ⟨by decide, by decide, rfl⟩]
  · rw [ad_ls, if_neg (by decide), if_pos rfl]
    show xLS HW 11 + 1 = _
    rw [l1]
  · rw [ad_ls, if_neg (by decide), if_neg (by decide)]
    show xLS HW 12 = _
    rw [l1]
  · rw [ad_ls, if_neg (by decide), if_neg (by decide)]
    show xLS HW 16 = _
    rw [l1]
  · rw [ad_le]
    by_cases c : j = xLS h 11
    · exact (if_pos ⟨rfl, c.trans (congrFun l1 11).symm⟩).trans (if_pos c).symm
    · exact (if_neg (fun z => c (z.2.trans (congrFun l1 11)))).trans ((congrFun (congrFun l2 11) j).trans (if_neg c).symm)
  · rw [ad_le, if_neg (fun z => absurd z.1 (by decide))]
    show xLE HW 12 j = _
    rw [l2]
  · rw [ad_cn, if_neg hx]
    show xCN HW x = _
    rw [l3, c0]
    by_cases c : x = 8 ∨ (28 ≤ x ∧ x ≤ 33)
    · rw [if_pos c, if_pos c]
      rcases c with rfl | c
      · rw [e8]
      · rw [C.2.1 x c.1 c.2]
    · rw [if_neg c, if_neg c]
theorem Chn.up {fr fr' : Nat → Nat → Option Nat} {n n' : Nat} (hn : n ≤ n') (e : ∀ k r, k / 100 = 5 → fr' k r = fr k r) : ∀ {R : List Nat} {o : Option Nat}, Chn fr n o R → Chn fr' n' o R := by
  intro R
  induction R with
  | nil => intro o h; exact h
  | cons r R ih =>
    intro o h
    obtain ⟨h1, ⟨t, h2, h3⟩, h4⟩ := h
    refine ⟨h1, ⟨t, (e 500 r (by decide)).trans h2, by omega⟩, ?_⟩
    rw [e 504 r (by decide)]
    exact ih h4
theorem NewT.cw {h H : Hp} {mo fi se da s0 mi : Nat} (W : CW h) (C : CN h) (h20 : xLS h 11 < 20) (q : NewT h H (xLS h 11) mo fi se da s0 mi) : CW H ∧ CN H := by
  obtain ⟨⟨r1, r2⟩, ⟨f1, -⟩, -, ⟨l1, l2, l3⟩, ⟨e1, e2⟩, c⟩ := q
  have g1 : ∀ f ∈ cw_f1, f / 100 ≠ 8 := by decide
  have eb : ∀ b, bj H b = bj h b := fun b => by unfold bj; rw [r1 100 b (.inl (by decide))]
  have er : ∀ j, rls H j = rls h j := fun j => by
    unfold rls
    rw [r1 301 j (.inl (by decide))]
    have : ∀ (n : Nat) (o : Option Nat), chs (xFR H) n o = chs (xFR h) n o := by
      intro n
      induction n with
      | zero => intro o; rfl
      | succ n ih =>
        intro o
        cases o with
        | none => rfl
        | some r =>
          show r :: chs (xFR H) n (xFR H 504 r) = r :: chs (xFR h) n (xFR h 504 r)
          rw [r1 504 r (.inl (by decide)), ih]
    exact this _ _
  refine ⟨⟨fun f hf => ?_, fun t ht => ?_, ?_, ?_, ?_, fun b hb => ?_⟩, ?_, fun s h1 h2 => ?_, ?_⟩
  · rw [r1 f 0 (.inl (g1 f hf))]
    exact W.fr hf
  · rw [l1] at ht
    rw [e1]
    by_cases w : t = xLS h 11
    · subst w
      rw [if_pos rfl]
      exact ⟨rfl, r2⟩
    · rw [if_neg w]
      refine ⟨W.tle (by omega), fun f hf => ?_⟩
      rw [r1 f t (.inr w)]
      exact W.tfr (by omega) hf
  · rw [l1]
    omega
  · rw [l2]
    exact W.b30
  · rw [c 15 (by decide), if_neg (by decide)]
    exact W.c15
  · rw [l2] at hb
    rw [e2, eb, er, r1 100 b (.inl (by decide)), r1 301 _ (.inl (by decide)), l1, c 3 (by decide), if_neg (by decide), c 5 (by decide), if_neg (by decide)]
    exact ⟨W.ble hb, W.jb hb, Chn.up (by omega) (fun k r hk => r1 k r (.inl (by omega))) (W.jc hb), W.j3 hb, fun r hr => W.r5 hb hr⟩
  · rw [c 8 (by decide), if_pos (.inl rfl), l1]
  · rw [c s (by omega), if_pos (.inr ⟨h1, h2⟩), l1]
  · rw [c 1 (by decide), if_neg (by decide), l2]
    exact C.2.2
/-- the reference's new trip -/
theorem m_trip {A : Hp} {t : Nat} {mo fi se da s mi : Int32} (h3 : xFI A 1003 0 = nI t) (ht : t < 20) (p1 : okR fi 0 2) (p2 : okR s 0 (xFI A 1000 0 - 1)) (p3 : okR mo 0 2) (p4 : okR se 1 100) (p5 : okR da 1 127) (p6 : okR mi 0 1439) :
    F_X9_trip A mo fi se da s mi = (nI t, sFI (sAI (sAI (sAI (sAI (sAI (sAI (sAI (sFI A 1043 0 0) 42 0 t mo) 43 0 t fi) 44 0 t se) 45 0 t da) 46 0 t 1) 47 0 (6 * t) s) 49 0 (6 * t) mi) 1003 0 (nI (t + 1))) := by
  have e3 : xFI (sFI A 1043 0 0) 1003 0 = nI t := (fi_ne (by decide)).trans h3
  unfold F_X9_trip
  rw [if_pos p1, if_pos p2, if_pos p3, if_pos p4, if_pos p5, if_pos p6]
  simp only [fi_ai, e3]
  have i6 : (6 * nI t).toNatClampNeg = 6 * t := by
    rw [show (6 : Int32) = nI 6 from rfl, nI_mul, nI_clamp (by omega)]
  rw [if_neg (fun z => by
    have := nI_inj (a := t) (b := 20) (by omega) (by decide) z
    omega), fi_eq, nI_1]
  simp only [nI_clamp (show t < 2 ^ 31 by omega), i6]
  rw [nI_m1]
theorem trip_inv {S : Nat → Int32} {N : Nat} {h H W9 : Hp} (I : Inv S N h) {n0 mo fi se da s0 mi : Nat} {v : Int64} (hs : RStop h n0) (h20 : xLS h 11 < 20) (q : NewT h H (xLS h 11) mo fi se da s0 mi) (pmo : mo < 3) (pfi : fi < 3) (pda : da < 128) (ps : s0 < n0) (pmi : mi < 1440)
    (eW : W9 = sFI (sAI (sAI (sAI (sAI (sAI (sAI (sAI (sFI (sAL H v) 1043 0 0) 42 0 (xLS h 11) (nI mo)) 43 0 (xLS h 11) (nI fi)) 44 0 (xLS h 11) (nI se)) 45 0 (xLS h 11) (nI da)) 46 0 (xLS h 11) 1) 47 0 (6 * xLS h 11) (nI s0)) 49 0 (6 * xLS h 11) (nI mi)) 1003 0 (nI (xLS h 11 + 1))) (D : DM W9) : Inv S N W9 := by
  obtain ⟨W, C⟩ := q.cw I.W I.C h20
  obtain ⟨⟨n, hn', htr⟩, hwk, h3, htn, hpr, hno, hb1, hbr, hc⟩ := I.R
  have h10 := hs.1
  obtain rfl : n0 = n := nI_inj (by omega) (by have := hn'.1; omega) (hs.2.1.symm.trans hn'.2.1)
  have h30 := I.W.b30
  obtain ⟨⟨r1, r2⟩, ⟨f1, f800, f801, f802, f803, f810, f811⟩, ⟨a1, a28, a30, a31, a32⟩, ⟨l1, l2, l3⟩, ⟨e1, e2⟩, c⟩ := q
  have sr : W9.2.1 = H.2.1 ∧ xLS W9 = xLS H ∧ xLE W9 = xLE H ∧ xCN W9 = xCN H := by subst eW; exact ⟨rfl, rfl, rfl, rfl⟩
  have W' : CW W9 := by subst eW; exact W
  have C' : CN W9 := by subst eW; exact C
  have F0 : ∀ f i, f ≠ 1003 → f ≠ 1043 → xFI W9 f i = xFI H f i := fun f i x y => by
    rw [eW, fi_ne x, fi_ai, fi_ai, fi_ai, fi_ai, fi_ai, fi_ai, fi_ai, fi_ne y]
    rfl
  have F : ∀ f i, f / 100 ≠ 8 ∨ i ≠ xLS h 11 → f ≠ 1100 → f ≠ 1003 → f ≠ 1043 → xFI W9 f i = xFI h f i := fun f i x y z w => (F0 f i z w).trans (f1 f i x y)
  have R0' : ∀ s i j, (s < 42 ∨ 46 < s ∨ j ≠ xLS h 11) → (s ≠ 47 ∧ s ≠ 49 ∨ j ≠ 6 * xLS h 11) → xAI W9 s i j = xAI H s i j := fun s i j x y => by
    rw [eW, ai_fi, ai_ai, if_neg (by omega), ai_ai, if_neg (by omega), ai_ai, if_neg (by omega), ai_ai, if_neg (by omega), ai_ai, if_neg (by omega), ai_ai, if_neg (by omega), ai_ai, if_neg (by omega), ai_fi]
    rfl
  have R : ∀ s i j, ((s < 28 ∨ 33 < s) ∨ i ≠ xLS h 11) → (s < 42 ∨ 46 < s ∨ j ≠ xLS h 11) → (s ≠ 47 ∧ s ≠ 49 ∨ j ≠ 6 * xLS h 11) → xAI W9 s i j = xAI h s i j := fun s i j x y z => (R0' s i j y z).trans (a1 s i j x)
  have RC' : RC W9 := by
    refine ⟨⟨n0, ⟨h10, (F 403 0 (.inl (by decide)) (by decide) (by decide) (by decide)).trans hs.2.1, (F 1000 0 (.inl (by decide)) (by decide) (by decide) (by decide)).trans hs.2.2.1, fun s hs' => ?_⟩, fun k hk => ?_⟩, ⟨fun a b ha hb => ?_, fun a ha => ?_⟩, ?_, fun t g1 g2 => ?_, fun f hf => ?_, ?_, ?_, fun b hb => ?_, ?_, ?_, ?_⟩
    · rw [R 22 0 s (by omega) (by omega) (by omega), R 40 0 s (by omega) (by omega) (by omega)]
      exact hs.2.2.2 s hs'
    · rw [sr.2.1, l1] at hk
      by_cases w : k = xLS h 11
      · subst w
        refine ⟨(F0 800 _ (by decide) (by decide)).trans f800, ⟨mo, pmo, (F0 801 _ (by decide) (by decide)).trans f801, ?_⟩, ⟨fi, pfi, (F0 802 _ (by decide) (by decide)).trans f802, ?_⟩, ?_, ⟨1, fun _ => s0, fun _ => mi, fun _ => 0, Nat.le_refl _, by decide, (F0 810 _ (by decide) (by decide)).trans f810, ?_, fun p hp => ?_⟩, fun d hd => ?_, ⟨0, by decide, (F0 811 _ (by decide) (by decide)).trans f811, ?_, fun i hi => absurd hi (Nat.not_lt_zero _)⟩⟩
        · rw [eW, ai_fi, ai_ne (by decide), ai_ne (by decide), ai_ne (by decide), ai_ne (by decide), ai_ne (by decide), ai_ne (by decide), ai_eq]
        · rw [eW, ai_fi, ai_ne (by decide), ai_ne (by decide), ai_ne (by decide), ai_ne (by decide), ai_ne (by decide), ai_eq]
        · rw [F0 803 _ (by decide) (by decide), f803, eW, ai_fi, ai_ne (by decide), ai_ne (by decide), ai_ne (by decide), ai_ne (by decide), ai_eq]
        · rw [eW, ai_fi, ai_ne (by decide), ai_ne (by decide), ai_eq]
          rfl
        · obtain rfl : p = 0 := by omega
          refine ⟨?_, ?_, ps, ?_, ?_, (show mi ≤ 1440 + 360 * 0 by omega), fun z => absurd rfl z⟩
          · rw [R0' 28 _ _ (by omega) (by omega)]
            exact a28
          · rw [Nat.add_zero, eW, ai_fi, ai_ne (by decide), ai_eq]
          · rw [R0' 30 _ _ (by omega) (by omega)]
            exact a30
          · rw [Nat.add_zero, eW, ai_fi, ai_eq]
        · obtain ⟨u1, u2⟩ := htn (xLS h 11) (Nat.le_refl _) h20
          obtain ⟨v1, v2⟩ := u1 d hd
          have e45 : xAI W9 45 0 (xLS h 11) = nI da := by rw [eW, ai_fi, ai_ne (by decide), ai_ne (by decide), ai_ne (by decide), ai_eq]
          have e31 : xAI W9 31 (xLS h 11) d = wkB da d := (R0' 31 _ _ (by omega) (by omega)).trans (a31 d hd)
          have e32 : xAI W9 32 (xLS h 11) d = 0 := (R0' 32 _ _ (by omega) (by omega)).trans (a32 d)
          have e50 : xAI W9 50 0 (100 * xLS h 11 + d) = 0 := (R 50 _ _ (by omega) (by omega) (by omega)).trans v1
          have e51 : xAI W9 51 0 (100 * xLS h 11 + d) = 0 := (R 51 _ _ (by omega) (by omega) (by omega)).trans v2
          have er : F_X9_isRun W9 (nI (xLS h 11)) (nI d) = wkB da d := by
            unfold F_X9_isRun
            rw [xi100, nI_clamp (show 100 * xLS h 11 + d < 2 ^ 31 by omega), nI_clamp (show xLS h 11 < 2 ^ 31 by omega), e50, if_pos rfl, e45, wkB_run pda hd]
          unfold TDay
          rw [er, e31, e32, e51]
          exact ⟨rfl, rfl, by decide, by decide⟩
        · rw [R 52 _ _ (by omega) (by omega) (by omega)]
          exact (htn (xLS h 11) (Nat.le_refl _) h20).2
      · have hk' : k < xLS h 11 := by omega
        refine TR.cg (by omega) (fun f hf => ?_) (fun s x y j => R s _ _ (.inr w) (by omega) (by omega)) (fun s x y => R s _ _ (by omega) (by omega) (by omega)) (fun s x y p hp => R s _ _ (by omega) (by omega) (by omega)) (fun s x y d hd => R s _ _ (by omega) (by omega) (by omega)) (R 52 _ _ (by omega) (by omega) (by omega)) (fun i hi => R 53 _ _ (by omega) (by omega) (by omega)) (htr k hk')
        simp only [List.mem_cons, List.not_mem_nil, or_false] at hf
        rcases hf with rfl | rfl | rfl | rfl | rfl | rfl <;> exact F _ _ (.inr w) (by decide) (by decide) (by decide)
    · rw [R 23 _ _ (by omega) (by omega) (by omega), R 41 _ _ (by omega) (by omega) (by omega)]
      exact hwk.1 a b ha hb
    · rw [R 41 _ _ (by omega) (by omega) (by omega)]
      exact hwk.2 a ha
    · rw [sr.2.1, l1, eW, fi_eq]
    · rw [sr.2.1, l1] at g1
      obtain ⟨u1, u2⟩ := htn t (by omega) g2
      refine ⟨fun d hd => ?_, (R 52 _ _ (by omega) (by omega) (by omega)).trans u2⟩
      rw [R 50 _ _ (by omega) (by omega) (by omega), R 51 _ _ (by omega) (by omega) (by omega)]
      exact u1 d hd
    · rw [R 24 _ _ (by omega) (by omega) (by omega), R 54 _ _ (by omega) (by omega) (by omega), R 25 _ _ (by omega) (by omega) (by omega), R 55 _ _ (by omega) (by omega) (by omega), R 26 _ _ (by omega) (by omega) (by omega), R 56 _ _ (by omega) (by omega) (by omega)]
      exact hpr f hf
    · rw [F 905 0 (.inl (by decide)) (by decide) (by decide) (by decide), F 1030 0 (.inl (by decide)) (by decide) (by decide) (by decide)]
      exact hno
    · rw [F 1031 0 (.inl (by decide)) (by decide) (by decide) (by decide), sr.2.1, l2]
      exact hb1
    · rw [sr.2.1, l2] at hb
      have xr : ∀ f i, f / 100 ≠ 8 → xFR W9 f i = xFR h f i := fun f i hf => (congrFun (congrFun sr.1 f) i).trans (r1 f i (.inl hf))
      have eb : bj W9 b = bj h b := by unfold bj; rw [xr 100 b (by decide)]
      have er : rls W9 (bj h b) = rls h (bj h b) := by
        unfold rls
        rw [xr 301 _ (by decide)]
        exact chs_old (m := xCN h 5) (fun r _ => xr 504 r (by decide)) 5 _ (fun r hr => I.W.r5 hb hr)
      refine BR.cg eb er (fun f hf => ?_) (fun f hf => ?_) (fun s x y => R s _ _ (by omega) (by omega) (by omega)) (fun s x y k hk => R s _ _ (by omega) (by omega) (by omega)) (fun k hk => R 75 _ _ (by omega) (by omega) (by omega)) (fun r hm => ⟨?_, fun f hf => ?_, F 810 _ (.inr ?_) (by decide) (by decide) (by decide)⟩) (hbr b hb)
      · simp only [List.mem_cons, List.not_mem_nil, or_false] at hf
        rcases hf with rfl | rfl | rfl <;> exact F _ _ (.inl (by decide)) (by decide) (by decide) (by decide)
      · simp only [List.mem_cons, List.not_mem_nil, or_false] at hf
        rcases hf with rfl | rfl | rfl | rfl <;> exact F _ _ (.inl (by decide)) (by decide) (by decide) (by decide)
      · unfold tr
        rw [xr 500 r (by decide)]
      · simp only [List.mem_cons, List.not_mem_nil, or_false] at hf
        rcases hf with rfl | rfl | rfl | rfl <;> exact F _ _ (.inl (by decide)) (by decide) (by decide) (by decide)
      · have := tr_lt I.W hb hm
        omega
    · rw [R 15 _ _ (by omega) (by omega) (by omega)]
      exact hc.1
    · rw [R 15 _ _ (by omega) (by omega) (by omega)]
      exact hc.2.1
    · rw [R 15 _ _ (by omega) (by omega) (by omega)]
      exact hc.2.2
  refine ⟨W', C', fun f g1 g2 g3 => ?_, D, ⟨fun j => ?_, ?_⟩, RC'⟩
  · exact (congrFun (congrFun sr.1 f) 0).trans ((r1 f 0 (.inl (by omega))).trans (I.MW f g1 g2 g3))
  · rw [R 16 _ _ (by omega) (by omega) (by omega)]
    exact I.S.1 j
  · rw [sr.2.1, l3]
    exact I.S.2
theorem DM.new {h H : Hp} {t mo fi se da s0 mi : Nat} (D : DM h) (q : NewT h H t mo fi se da s0 mi) : DM H := by
  obtain ⟨-, ⟨f1, -⟩, ⟨a1, -⟩, -⟩ := q
  have ea : ∀ x, x ∈ dm_a → 33 < x.1 := by decide
  have ef : ∀ x, x ∈ dm_f → x.1 / 100 ≠ 8 ∧ x.1 ≠ 1100 := by decide
  exact ⟨fun s b hs j => by rw [a1 s 0 j (.inl (.inr (ea _ hs)))]; exact D.1 s b hs j, fun f b hf => by rw [f1 f 0 (.inl (ef _ hf).1) (ef _ hf).2]; exact D.2 f b hf⟩
theorem ag_trip {S : Nat → Int32} {N : Nat} {h : Hp} (I : Inv S N h) (mo fi se da s mi : Int32) : AG S N [cy_e3, cy_e1, cy_e2] (F_X8_trip h mo fi se da s mi).1 (A1_trip h mo fi se da s mi) (F_X9_trip (A1_trip h mo fi se da s mi) mo fi se da s mi).2 (xAL (F_X9_trip (A1_trip h mo fi se da s mi) mo fi se da s mi).2 0 = (F_X9_trip (A1_trip h mo fi se da s mi) mo fi se da s mi).1.toInt64) := by
  obtain ⟨n0, hs, w⟩ := world_of I.W I.R
  have h10 := hs.1
  have h20 := I.W.t20
  have h3 := I.R.2.2.1
  have E : ∀ {E : String}, F_X8_trip h mo fi se da s mi = (.inr E, h) → A1_trip h mo fi se da s mi = h := fun e => by unfold A1_trip; rw [e]; rfl
  have fF : okF fi ↔ okR fi 0 2 := by
    constructor
    · intro z
      obtain ⟨j, hj, e⟩ := nI_of z.1
      rw [e] at z ⊢
      have := (nI_ltI (b := 3) hj (by decide)).mp z.2
      exact ⟨nI_pos hj, (nI_leI (b := 2) hj (by decide)).mpr (by omega)⟩
    · intro z
      obtain ⟨j, hj, e⟩ := nI_of z.1
      rw [e] at z ⊢
      have := (nI_leI (b := 2) hj (by decide)).mp z.2
      exact ⟨nI_pos hj, (nI_ltI (b := 3) hj (by decide)).mpr (by omega)⟩
  by_cases p1 : okF fi
  · have m1 := fF.mp p1
    by_cases p2 : okS h s
    · have ks := (okS_iff hs.2.1 h10).mp p2
      have m2 : okR s 0 (xFI h 1000 0 - 1) := by rw [hs.2.2.1]; exact (okM_iff (by omega)).mpr ks
      by_cases p3 : okR mo 0 2
      · by_cases p4 : okR se 1 100
        · by_cases p5 : okR da 1 127
          · by_cases p6 : okR mi 0 1439
            · by_cases c : xLS h 11 < 20
              · obtain ⟨s0, hs0, rfl⟩ := ks
                obtain ⟨mo, rfl, -, b1⟩ := okR_of (a := 0) (n := 2) (by decide) (by decide) p3
                obtain ⟨fi, rfl, -, b2⟩ := okR_of (a := 0) (n := 2) (by decide) (by decide) m1
                obtain ⟨se, rfl, b3, b4⟩ := okR_of (a := 1) (n := 100) (by decide) (by decide) p4
                obtain ⟨da, rfl, b5, b6⟩ := okR_of (a := 1) (n := 127) (by decide) (by decide) p5
                obtain ⟨mi, rfl, -, b7⟩ := okR_of (a := 0) (n := 1439) (by decide) (by decide) p6
                have e8 : F_X8_trip h (nI mo) (nI fi) (nI se) (nI da) (nI s0) (nI mi) = (.inl (some (.inl (.int (nI (xLS h 11))))), H_add (F_X7_begin (F_X7_setWeek (F_X7_init (sNO h 8) (xCN h 8) (nI (xLS h 11)) (nI mo) (nI fi) (nI se)) (xCN h 8) (nI da)) (xCN h 8) (nI s0) (nI mi)) 11 (xCN h 8)) := by
                  unfold F_X8_trip
                  rw [if_pos p1, if_pos p2, if_pos p3, if_pos p4, if_pos p5, if_pos p6, if_pos (c := nI (xLS h 11) < (20 : Int32)) ((nI_ltI (a := xLS h 11) (b := 20) (by omega) (by decide)).mpr c)]
                have nt := tripC I.C (mo := mo) (fi := fi) (se := se) (da := da) (s0 := s0) (mi := mi)
                generalize H_add (F_X7_begin (F_X7_setWeek (F_X7_init (sNO h 8) (xCN h 8) (nI (xLS h 11)) (nI mo) (nI fi) (nI se)) (xCN h 8) (nI da)) (xCN h 8) (nI s0) (nI mi)) 11 (xCN h 8) = H at e8 nt
                have eA : A1_trip h (nI mo) (nI fi) (nI se) (nI da) (nI s0) (nI mi) = sAL H (nI (xLS h 11)).toInt64 := by unfold A1_trip; rw [e8]; rfl
                have k3 : xFI (sAL H (nI (xLS h 11)).toInt64) 1003 0 = nI (xLS h 11) := (nt.2.1.1 1003 0 (.inl (by decide)) (by decide)).trans h3
                have k1 : okR (nI s0) 0 (xFI (sAL H (nI (xLS h 11)).toInt64) 1000 0 - 1) := by
                  rw [show xFI (sAL H (nI (xLS h 11)).toInt64) 1000 0 = xFI h 1000 0 from nt.2.1.1 1000 0 (.inl (by decide)) (by decide)]
                  exact m2
                rw [eA, e8, m_trip k3 c m1 k1 p3 p4 p5 p6]
                refine ⟨⟨fun f g1 g2 g3 => (nt.1.1 f 0 (.inl (by omega))).trans (I.MW f g1 g2 g3), I.D.new nt, ⟨fun j => (nt.2.2.1.1 16 0 j (.inl (.inl (by decide)))).trans (I.S.1 j), nt.2.2.2.1.2.2.trans I.S.2⟩⟩, fun m => trip_inv I hs c nt (by omega) (by omega) (by omega) hs0 (by omega) rfl m.2, rfl, fun _ => rfl⟩
              · have e8 : F_X8_trip h mo fi se da s mi = (.inr cy_e2, h) := by
                  unfold F_X8_trip
                  rw [if_pos p1, if_pos p2, if_pos p3, if_pos p4, if_pos p5, if_pos p6, if_neg (c := nI (xLS h 11) < (20 : Int32)) (fun z => c ((nI_ltI (a := xLS h 11) (b := 20) (by omega) (by decide)).mp z))]
                have e9 : F_X9_trip h mo fi se da s mi = (0, sFI (sFI h 1043 0 0) 1043 0 3) := by
                  unfold F_X9_trip
                  rw [if_pos m1, if_pos m2, if_pos p3, if_pos p4, if_pos p5, if_pos p6, if_pos (by
                    rw [fi_ne (by decide), h3, show xLS h 11 = 20 by omega]
                    rfl)]
                rw [E e8, e8, e9]
                exact ag_err I (k := 3) fqe2 rfl (by decide +kernel) (by decide)
            · have e8 : F_X8_trip h mo fi se da s mi = (.inr cy_e1, h) := by unfold F_X8_trip; rw [if_pos p1, if_pos p2, if_pos p3, if_pos p4, if_pos p5, if_neg p6]
              have e9 : F_X9_trip h mo fi se da s mi = (0, sFI (sFI h 1043 0 0) 1043 0 2) := by unfold F_X9_trip; rw [if_pos m1, if_pos m2, if_pos p3, if_pos p4, if_pos p5, if_neg p6]
              rw [E e8, e8, e9]
              exact ag_err I (k := 2) fqe2 rfl (by decide +kernel) (by decide)
          · have e8 : F_X8_trip h mo fi se da s mi = (.inr cy_e1, h) := by unfold F_X8_trip; rw [if_pos p1, if_pos p2, if_pos p3, if_pos p4, if_neg p5]
            have e9 : F_X9_trip h mo fi se da s mi = (0, sFI (sFI h 1043 0 0) 1043 0 2) := by unfold F_X9_trip; rw [if_pos m1, if_pos m2, if_pos p3, if_pos p4, if_neg p5]
            rw [E e8, e8, e9]
            exact ag_err I (k := 2) fqe2 rfl (by decide +kernel) (by decide)
        · have e8 : F_X8_trip h mo fi se da s mi = (.inr cy_e1, h) := by unfold F_X8_trip; rw [if_pos p1, if_pos p2, if_pos p3, if_neg p4]
          have e9 : F_X9_trip h mo fi se da s mi = (0, sFI (sFI h 1043 0 0) 1043 0 2) := by unfold F_X9_trip; rw [if_pos m1, if_pos m2, if_pos p3, if_neg p4]
          rw [E e8, e8, e9]
          exact ag_err I (k := 2) fqe2 rfl (by decide +kernel) (by decide)
      · have e8 : F_X8_trip h mo fi se da s mi = (.inr cy_e1, h) := by unfold F_X8_trip; rw [if_pos p1, if_pos p2, if_neg p3]
        have e9 : F_X9_trip h mo fi se da s mi = (0, sFI (sFI h 1043 0 0) 1043 0 2) := by unfold F_X9_trip; rw [if_pos m1, if_pos m2, if_neg p3]
        rw [E e8, e8, e9]
        exact ag_err I (k := 2) fqe2 rfl (by decide +kernel) (by decide)
    · have e8 : F_X8_trip h mo fi se da s mi = (.inr cy_e3, h) := by unfold F_X8_trip; rw [if_pos p1, if_neg p2]
      have e9 : F_X9_trip h mo fi se da s mi = (0, sFI h 1043 0 1) := by
        unfold F_X9_trip
        rw [if_pos m1, if_neg (fun q => p2 ((okS_iff hs.2.1 h10).mpr ((okM_iff (n0 := n0) (by omega)).mp (by rw [← hs.2.2.1]; exact q))))]
      rw [E e8, e8, e9]
      exact ag_err I (k := 1) fqe1 rfl (by decide +kernel) (by decide)
  · have e8 : F_X8_trip h mo fi se da s mi = (.inr cy_e3, h) := by unfold F_X8_trip; rw [if_neg p1]
    have e9 : F_X9_trip h mo fi se da s mi = (0, sFI h 1043 0 1) := by
      unfold F_X9_trip
      rw [if_neg (fun q => p1 (fF.mpr q))]
    rw [E e8, e8, e9]
    exact ag_err I (k := 1) fqe1 rfl (by decide +kernel) (by decide)
