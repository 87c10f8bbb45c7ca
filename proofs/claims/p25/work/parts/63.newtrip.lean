/-! ===== own: a new trip, a new booking (out of whole) ===== -/
theorem rem7 {d : Nat} (hd : d < 1000) : nI d - nI d / 7 * 7 = nI (d % 7) := by
  rw [show (7 : Int32) = nI 7 from rfl, nI_quo (by decide) (by omega), nI_mul]
  have e : nI d = nI (d / 7 * 7) + nI (d % 7) := by
    rw [nI_add]
    congr 1
    omega
  rw [e, Int32.add_comm, Int32.add_sub_cancel]
def wkB (da d : Nat) : Int32 := if (nI da &&& ((1 : Int32) <<< ((nI d - nI d / 7 * 7) &&& 31))) = 0 then 0 else 1
theorem wk_all : ∀ a, a < 128 → ∀ w, w < 7 → (if (nI a &&& ((1 : Int32) <<< (nI w &&& 31))) = 0 then (0 : Int32) else 1) = if ((nI a >>> (nI w &&& 31)) &&& 1) = 1 then 1 else 0 := by decide +kernel
theorem wkB_run {da d : Nat} (hda : da < 128) (hd : d < 100) : wkB da d = if (((nI da) >>> ((nI d - nI d / 7 * 7) &&& 31)) &&& 1) = 1 then 1 else 0 := by
  unfold wkB
  rw [rem7 (by omega)]
  exact wk_all da hda (d % 7) (Nat.mod_lt _ (by decide))
theorem setWeek_spec {H : Hp} {t da : Nat} : SR H (F_X7_setWeek H t (nI da)) ∧ (∀ f i, xFI (F_X7_setWeek H t (nI da)) f i = xFI H f i) ∧ ∀ s i j, xAI (F_X7_setWeek H t (nI da)) s i j = if s = 31 ∧ i = t ∧ j < 100 then wkB da j else xAI H s i j := by
  have key : ∀ (m dy fu : Nat) (X : Hp), dy + m = 100 → m < fu → SR H X → (∀ f i, xFI X f i = xFI H f i) → (∀ s i j, xAI X s i j = if s = 31 ∧ i = t ∧ j < dy then wkB da j else xAI H s i j) →
      SR H (L_X7_setWeek_2 H t (nI da) (K_X7_setWeek_2 H t (nI da)) fu X dy) ∧ (∀ f i, xFI (L_X7_setWeek_2 H t (nI da) (K_X7_setWeek_2 H t (nI da)) fu X dy) f i = xFI H f i) ∧ ∀ s i j, xAI (L_X7_setWeek_2 H t (nI da) (K_X7_setWeek_2 H t (nI da)) fu X dy) s i j = if s = 31 ∧ i = t ∧ j < 100 then wkB da j else xAI H s i j := by
    intro m
    induction m with
    | zero =>
      intro dy fu X hd hf x1 x2 x3
      obtain ⟨fu, rfl⟩ : ∃ g, fu = g + 1 := ⟨fu - 1, by omega⟩
      obtain rfl : dy = 100 := by omega
      rw [L_X7_setWeek_2_s]
      unfold B_X7_setWeek_2
      rw [if_pos (by decide)]
      exact ⟨x1, x2, x3⟩
    | succ m ih =>
      intro dy fu X hd hf x1 x2 x3
      obtain ⟨fu, rfl⟩ : ∃ g, fu = g + 1 := ⟨fu - 1, by omega⟩
      rw [L_X7_setWeek_2_s]
      unfold B_X7_setWeek_2
      rw [if_neg (fun z => by
        have := (nI_leI (a := 100) (b := dy) (by decide) (by omega)).mp z
        omega)]
      have nxt : ∀ v, v = wkB da dy → ∀ s i j, xAI (sAI X 31 t dy v) s i j = if s = 31 ∧ i = t ∧ j < dy + 1 then wkB da j else xAI H s i j := fun v hv s i j => by
        rw [ai_ai, x3]
        by_cases c : s = 31 ∧ i = t ∧ j = dy
        · obtain ⟨c1, c2, rfl⟩ := c
          rw [if_pos ⟨c1, c2, rfl⟩, if_pos ⟨c1, c2, by omega⟩, hv]
        · rw [if_neg c]
          by_cases c2 : s = 31 ∧ i = t ∧ j < dy
          · rw [if_pos c2, if_pos ⟨c2.1, c2.2.1, by omega⟩]
          · rw [if_neg c2, if_neg (fun z => by
              rcases Nat.lt_or_ge j dy with w | w
              · exact c2 ⟨z.1, z.2.1, w⟩
              · exact c ⟨z.1, z.2.1, by omega⟩)]
      by_cases c : (nI da &&& ((1 : Int32) <<< ((nI dy - nI dy / 7 * 7) &&& 31))) = 0
      · rw [if_pos c]
        exact ih (dy + 1) fu _ (by omega) (by omega) (x1.trans ⟨rfl, rfl⟩) x2 (nxt 0 (by unfold wkB; rw [if_pos c]))
      · rw [if_neg c]
        exact ih (dy + 1) fu _ (by omega) (by omega) (x1.trans ⟨rfl, rfl⟩) x2 (nxt 1 (by unfold wkB; rw [if_neg c]))
  exact key 100 0 _ H (by omega) (by omega) SR.rf (fun _ _ => rfl) (fun s i j => by rw [if_neg (by omega)])
theorem nw_ai {H : Hp} {s0 k j : Nat} {v : Option Nat} {x a b : Nat} : xAI (sFR (sNA H s0) k j v) x a b = if x = s0 ∧ a = xCN H s0 then 0 else xAI H x a b := rfl
theorem nw_ne {H : Hp} {s0 k j : Nat} {v : Option Nat} {x : Nat} (hx : x ≠ s0) : xCN (sFR (sNA H s0) k j v) x = xCN H x := if_neg hx
theorem nw_eq {H : Hp} {s0 k j : Nat} {v : Option Nat} : xCN (sFR (sNA H s0) k j v) s0 = xCN H s0 + 1 := if_pos rfl
theorem ti_ai {h : Hp} {i : Nat} {nu mo fi se : Int32} (hc : ∀ s, 28 ≤ s → s ≤ 33 → xCN (sNO h 8) s = i) (s a b : Nat) : xAI (F_X7_init (sNO h 8) i nu mo fi se) s a b = if 28 ≤ s ∧ s ≤ 33 ∧ a = i then 0 else xAI h s a b := by
  unfold F_X7_init
  rw [ai_fi, ai_fi, ai_fi, ai_fi, nw_ai, nw_ai, nw_ai, nw_ai, nw_ai, nw_ai]
  rw [nw_ne (x := 33) (s0 := 32) (by decide), nw_ne (x := 33) (s0 := 31) (by decide), nw_ne (x := 33) (s0 := 30) (by decide), nw_ne (x := 33) (s0 := 29) (by decide), nw_ne (x := 33) (s0 := 28) (by decide),
    nw_ne (x := 32) (s0 := 31) (by decide), nw_ne (x := 32) (s0 := 30) (by decide), nw_ne (x := 32) (s0 := 29) (by decide), nw_ne (x := 32) (s0 := 28) (by decide),
    nw_ne (x := 31) (s0 := 30) (by decide), nw_ne (x := 31) (s0 := 29) (by decide), nw_ne (x := 31) (s0 := 28) (by decide), nw_ne (x := 30) (s0 := 29) (by decide), nw_ne (x := 30) (s0 := 28) (by decide), nw_ne (x := 29) (s0 := 28) (by decide),
    hc 33 (by decide) (by decide), hc 32 (by decide) (by decide), hc 31 (by decide) (by decide), hc 30 (by decide) (by decide), hc 29 (by decide) (by decide), hc 28 (by decide) (by decide)]
  have e0 : xAI (sNO h 8) s a b = xAI h s a b := rfl
  rw [e0]
  by_cases q : a = i
  · by_cases c : 28 ≤ s ∧ s ≤ 33
    · rw [if_pos (c := 28 ≤ s ∧ s ≤ 33 ∧ a = i) ⟨c.1, c.2, q⟩]
      rcases (show s = 33 ∨ s = 32 ∨ s = 31 ∨ s = 30 ∨ s = 29 ∨ s = 28 by omega) with w | w | w | w | w | w
      · rw [if_pos ⟨w, q⟩]
      · rw [if_neg (by omega), if_pos ⟨w, q⟩]
      · rw [if_neg (by omega), if_neg (by omega), if_pos ⟨w, q⟩]
      · rw [if_neg (by omega), if_neg (by omega), if_neg (by omega), if_pos ⟨w, q⟩]
      · rw [if_neg (by omega), if_neg (by omega), if_neg (by omega), if_neg (by omega), if_pos ⟨w, q⟩]
      · rw [if_neg (by omega), if_neg (by omega), if_neg (by omega), if_neg (by omega), if_neg (by omega), if_pos ⟨w, q⟩]
    · rw [if_neg (by omega), if_neg (by omega), if_neg (by omega), if_neg (by omega), if_neg (by omega), if_neg (by omega), if_neg (by omega)]
  · rw [if_neg (fun z => q z.2), if_neg (fun z => q z.2), if_neg (fun z => q z.2), if_neg (fun z => q z.2), if_neg (fun z => q z.2), if_neg (fun z => q z.2), if_neg (fun z => q z.2.2)]
theorem ti_fi {h : Hp} {i : Nat} {nu mo fi se : Int32} (hi : i = xCN h 8) (f j : Nat) : xFI (F_X7_init (sNO h 8) i nu mo fi se) f j = if f / 100 = 8 ∧ j = i then (if f = 803 then se else if f = 802 then fi else if f = 801 then mo else if f = 800 then nu else 0) else xFI h f j := by
  unfold F_X7_init
  rw [fi_fi, fi_fi, fi_fi, fi_fi]
  have e0 : ∀ {X : Hp} {s0 k a : Nat} {v : Option Nat}, xFI (sFR (sNA X s0) k a v) f j = xFI X f j := rfl
  rw [e0, e0, e0, e0, e0, e0]
  have e1 : xFI (sNO h 8) f j = if f / 100 = 8 ∧ j = xCN h 8 then 0 else xFI h f j := rfl
  rw [e1, ← hi]
  by_cases q : j = i
  · by_cases c3 : f = 803
    · rw [if_pos ⟨c3, q⟩, if_pos ⟨by omega, q⟩, if_pos c3]
    by_cases c2 : f = 802
    · rw [if_neg (by omega), if_pos ⟨c2, q⟩, if_pos (c := f / 100 = 8 ∧ j = i) ⟨by omega, q⟩, if_neg c3, if_pos c2]
    by_cases c1 : f = 801
    · rw [if_neg (by omega), if_neg (by omega), if_pos ⟨c1, q⟩, if_pos (c := f / 100 = 8 ∧ j = i) ⟨by omega, q⟩, if_neg c3, if_neg c2, if_pos c1]
    by_cases c0 : f = 800
    · rw [if_neg (by omega), if_neg (by omega), if_neg (by omega), if_pos ⟨c0, q⟩, if_pos (c := f / 100 = 8 ∧ j = i) ⟨by omega, q⟩, if_neg c3, if_neg c2, if_neg c1, if_pos c0]
    · rw [if_neg (by omega), if_neg (by omega), if_neg (by omega), if_neg (by omega)]
      by_cases w : f / 100 = 8 ∧ j = i
      · rw [if_pos w, if_pos w, if_neg c3, if_neg c2, if_neg c1, if_neg c0]
      · rw [if_neg w, if_neg w]
  · rw [if_neg (fun z => q z.2), if_neg (fun z => q z.2), if_neg (fun z => q z.2), if_neg (fun z => q z.2), if_neg (fun z => q z.2), if_neg (fun z => q z.2)]
theorem ti_fr2 {h : Hp} {i : Nat} {nu mo fi se : Int32} (hi : i = xCN h 8) {f j : Nat} (hj : j ≠ i) : xFR (F_X7_init (sNO h 8) i nu mo fi se) f j = xFR h f j := by
  have a : ∀ k, ¬ (f = k ∧ j = i) := fun k q => hj q.2
  show up2 (up2 (up2 (up2 (up2 (up2 (sNO h 8).2.1 804 i _) 805 i _) 806 i _) 807 i _) 808 i _) 809 i _ f j = _
  unfold up2
  rw [if_neg (a 809), if_neg (a 808), if_neg (a 807), if_neg (a 806), if_neg (a 805), if_neg (a 804)]
  show (if f / 100 = 8 ∧ j = h.2.2.2.1 8 then none else h.2.1 f j) = _
  rw [if_neg (fun q => hj (q.2.trans hi.symm))]
  rfl
theorem ti_cn {h : Hp} {i : Nat} {nu mo fi se : Int32} (x : Nat) : xCN (F_X7_init (sNO h 8) i nu mo fi se) x = if x = 8 ∨ (28 ≤ x ∧ x ≤ 33) then xCN h x + 1 else xCN h x := by
  have u : ∀ {g : Nat → Nat} {s0 : Nat}, x ≠ s0 → up1 g s0 (g s0 + 1) x = g x := fun hx => if_neg hx
  have e : ∀ {g : Nat → Nat} {s0 : Nat}, x = s0 → up1 g s0 (g s0 + 1) x = g x + 1 := fun hx => by
    subst hx
    exact if_pos rfl
  show up1 (up1 (up1 (up1 (up1 (up1 (up1 h.2.2.2.1 8 (h.2.2.2.1 8 + 1)) 28 _) 29 _) 30 _) 31 _) 32 _) 33 _ x = if x = 8 ∨ (28 ≤ x ∧ x ≤ 33) then h.2.2.2.1 x + 1 else h.2.2.2.1 x
  by_cases c : x = 8 ∨ (28 ≤ x ∧ x ≤ 33)
  · rw [if_pos c]
    rcases (show x = 8 ∨ x = 33 ∨ x = 32 ∨ x = 31 ∨ x = 30 ∨ x = 29 ∨ x = 28 by omega) with w | w | w | w | w | w | w
    · refine (u (by omega)).trans ((u (by omega)).trans ((u (by omega)).trans ((u (by omega)).trans ((u (by omega)).trans ((u (by omega)).trans (e w))))))
    · refine (e w).trans ?_
      exact congrArg (· + 1) ((u (by omega)).trans ((u (by omega)).trans ((u (by omega)).trans ((u (by omega)).trans ((u (by omega)).trans (u (by omega)))))))
    · refine (u (by omega)).trans ((e w).trans ?_)
      exact congrArg (· + 1) ((u (by omega)).trans ((u (by omega)).trans ((u (by omega)).trans ((u (by omega)).trans (u (by omega))))))
    · refine (u (by omega)).trans ((u (by omega)).trans ((e w).trans ?_))
      exact congrArg (· + 1) ((u (by omega)).trans ((u (by omega)).trans ((u (by omega)).trans (u (by omega)))))
    · refine (u (by omega)).trans ((u (by omega)).trans ((u (by omega)).trans ((e w).trans ?_)))
      exact congrArg (· + 1) ((u (by omega)).trans ((u (by omega)).trans (u (by omega))))
    · refine (u (by omega)).trans ((u (by omega)).trans ((u (by omega)).trans ((u (by omega)).trans ((e w).trans ?_))))
      exact congrArg (· + 1) ((u (by omega)).trans (u (by omega)))
    · refine (u (by omega)).trans ((u (by omega)).trans ((u (by omega)).trans ((u (by omega)).trans ((u (by omega)).trans ((e w).trans ?_)))))
      exact congrArg (· + 1) (u (by omega))
  · rw [if_neg c]
    exact (u (by omega)).trans ((u (by omega)).trans ((u (by omega)).trans ((u (by omega)).trans ((u (by omega)).trans ((u (by omega)).trans (u (by omega)))))))
theorem ad_ls {h : Hp} {s e x : Nat} : xLS (H_add h s e) x = if x = s + 2 then cy_cap (sFI h (100 * s) 0 (xFI h (100 * s) 0 + 1)) s else if x = s then xLS h s + 1 else xLS h x := rfl
theorem ad_le {h : Hp} {s e x j : Nat} : xLE (H_add h s e) x j = if x = s ∧ j = xLS h s then e else xLE h x j := rfl
theorem ad_cn {h : Hp} {s e x : Nat} : xCN (H_add h s e) x = if x = s + 2 then 1 else xCN h x := rfl
theorem ad_fi {h : Hp} {s e f j : Nat} (hf : f ≠ 100 * s) : xFI (H_add h s e) f j = xFI h f j := if_neg (fun z => hf z.1)
theorem ad_fr {h : Hp} {s e : Nat} : xFR (H_add h s e) = xFR h := rfl
theorem ad_ai {h : Hp} {s e : Nat} : xAI (H_add h s e) = xAI h := rfl
def NewT (h H : Hp) (t mo fi se da s0 mi : Nat) : Prop :=
  ((∀ f i, f / 100 ≠ 8 ∨ i ≠ t → xFR H f i = xFR h f i) ∧ TOk H t) ∧
  ((∀ f i, f / 100 ≠ 8 ∨ i ≠ t → f ≠ 1100 → xFI H f i = xFI h f i) ∧ xFI H 800 t = nI t ∧ xFI H 801 t = nI mo ∧ xFI H 802 t = nI fi ∧ xFI H 803 t = nI se ∧ xFI H 810 t = nI 1 ∧ xFI H 811 t = nI 0) ∧
  ((∀ s i j, (s < 28 ∨ 33 < s) ∨ i ≠ t → xAI H s i j = xAI h s i j) ∧ xAI H 28 t 0 = nI s0 ∧ xAI H 30 t 0 = nI mi ∧ (∀ d, d < 100 → xAI H 31 t d = wkB da d) ∧ ∀ d, xAI H 32 t d = 0) ∧
  (xLS H 11 = t + 1 ∧ xLS H 12 = xLS h 12 ∧ xLS H 16 = xLS h 16) ∧ ((∀ j, xLE H 11 j = if j = t then t else xLE h 11 j) ∧ ∀ j, xLE H 12 j = xLE h 12 j) ∧
  ∀ x, x ≠ 13 → xCN H x = if x = 8 ∨ (28 ≤ x ∧ x ≤ 33) then t + 1 else xCN h x
theorem tripC {h : Hp} (C : CN h) {mo fi se da s0 mi : Nat} : NewT h (H_add (F_X7_begin (F_X7_setWeek (F_X7_init (sNO h 8) (xCN h 8) (nI (xLS h 11)) (nI mo) (nI fi) (nI se)) (xCN h 8) (nI da)) (xCN h 8) (nI s0) (nI mi)) 11 (xCN h 8)) (xLS h 11) mo fi se da s0 mi := by
  have e8 := C.1
  have hc : ∀ s, 28 ≤ s → s ≤ 33 → xCN (sNO h 8) s = xLS h 11 := fun s h1 h2 => by
    rw [cn_sNO8 h1]
    exact C.2.1 s h1 h2
  rw [e8]
  have a0 := ti_ai (nu := nI (xLS h 11)) (mo := nI mo) (fi := nI fi) (se := nI se) hc
  have f0 := ti_fi (h := h) (i := xLS h 11) (nu := nI (xLS h 11)) (mo := nI mo) (fi := nI fi) (se := nI se) e8.symm
  have r1 : ∀ f i, f / 100 ≠ 8 ∨ i ≠ xLS h 11 → xFR (F_X7_init (sNO h 8) (xLS h 11) (nI (xLS h 11)) (nI mo) (nI fi) (nI se)) f i = xFR h f i := fun f i q => by
    rcases q with q | q
    · exact ti_fr q
    · exact ti_fr2 e8.symm q
  have r2 : TOk (F_X7_init (sNO h 8) (xLS h 11) (nI (xLS h 11)) (nI mo) (nI fi) (nI se)) (xLS h 11) := ti_tok hc
  have c0 := ti_cn (h := h) (i := xLS h 11) (nu := nI (xLS h 11)) (mo := nI mo) (fi := nI fi) (se := nI se)
  have l0 : (F_X7_init (sNO h 8) (xLS h 11) (nI (xLS h 11)) (nI mo) (nI fi) (nI se)).2.2.2.2 = h.2.2.2.2 := rfl
  generalize F_X7_init (sNO h 8) (xLS h 11) (nI (xLS h 11)) (nI mo) (nI fi) (nI se) = H0 at a0 f0 r1 r2 c0 l0
  obtain ⟨w1, w2, w3⟩ := setWeek_spec (H := H0) (t := xLS h 11) (da := da)
  generalize F_X7_setWeek H0 (xLS h 11) (nI da) = HW at w1 w2 w3
  have eb : F_X7_begin HW (xLS h 11) (nI s0) (nI mi) = sFI (sAI (sAI (sAI HW 28 (xLS h 11) 0 (nI s0)) 29 (xLS h 11) 0 (nI mi)) 30 (xLS h 11) 0 (nI mi)) 810 (xLS h 11) 1 := by
    unfold F_X7_begin
    rw [show (0 : Int32) = nI 0 from rfl, put_in _ (n := 6) (by decide) rfl (by decide) (by decide), put_in _ (n := 6) (by decide) rfl (by decide) (by decide), put_in _ (n := 6) (by decide) rfl (by decide) (by decide)]
  rw [eb]
  have l1 : xLS HW = xLS h := congrArg (fun x => x.2.2.1) (show HW.2.2.2 = H0.2.2.2 from w1.2) |>.trans (congrArg (fun x => x.2.1) l0)
  have l2 : xLE HW = xLE h := congrArg (fun x => x.2.1) (show HW.2.2.2 = H0.2.2.2 from w1.2) |>.trans (congrArg (fun x => x.1) l0)
  have l3 : xCN HW = xCN H0 := congrArg (fun x => x.1) (show HW.2.2.2 = H0.2.2.2 from w1.2)
  have l4 : xFR HW = xFR H0 := w1.1
  refine ⟨⟨fun f i q => ?_, fun f hf => ?_⟩, ⟨fun f i q hq => ?_, ?_, ?_, ?_, ?_, ?_, ?_⟩, ⟨fun s i j q => ?_, ?_, ?_, fun d hd => ?_, fun d => ?_⟩, ⟨?_, ?_, ?_⟩, ⟨fun j => ?_, fun j => ?_⟩, fun x hx => ?_⟩
  · rw [ad_fr]
    show xFR HW f i = _
    rw [l4, r1 f i q]
  · rw [ad_fr]
    show xFR HW f _ = _
    rw [l4]
    exact r2 f hf
  · rw [ad_fi hq, fi_fi, if_neg (by omega), fi_ai, fi_ai, fi_ai, w2, f0, if_neg (by omega)]
  · rw [ad_fi (by decide), fi_ne (by decide), fi_ai, fi_ai, fi_ai, w2, f0, if_pos ⟨rfl, rfl⟩, if_neg (by decide), if_neg (by decide), if_neg (by decide), if_pos rfl]
  · rw [ad_fi (by decide), fi_ne (by decide), fi_ai, fi_ai, fi_ai, w2, f0, if_pos ⟨rfl, rfl⟩, if_neg (by decide), if_neg (by decide), if_pos rfl]
  · rw [ad_fi (by decide), fi_ne (by decide), fi_ai, fi_ai, fi_ai, w2, f0, if_pos ⟨rfl, rfl⟩, if_neg (by decide), if_pos rfl]
  · rw [ad_fi (by decide), fi_ne (by decide), fi_ai, fi_ai, fi_ai, w2, f0, if_pos ⟨rfl, rfl⟩, if_pos rfl]
  · rw [ad_fi (by decide), fi_eq]
    rfl
  · rw [ad_fi (by decide), fi_ne (by decide), fi_ai, fi_ai, fi_ai, w2, f0, if_pos ⟨rfl, rfl⟩, if_neg (by decide), if_neg (by decide), if_neg (by decide), if_neg (by decide)]
    rfl
  · rw [ad_ai, ai_fi, ai_ai, if_neg (by omega), ai_ai, if_neg (by omega), ai_ai, if_neg (by omega), w3, if_neg (by omega), a0, if_neg (by omega)]
  · rw [ad_ai, ai_fi, ai_ne (by decide), ai_ne (by decide), ai_eq]
  · rw [ad_ai, ai_fi, ai_eq]
  · rw [ad_ai, ai_fi, ai_ne (by decide), ai_ne (by decide), ai_ne (by decide), w3, if_pos ⟨rfl, rfl, hd⟩]
  · rw [ad_ai, ai_fi, ai_ne (by decide), ai_ne (by decide), ai_ne (by decide), w3, if_neg (by omega), a0, if_pos ⟨by decide, by decide, rfl⟩]
  · rw [ad_ls, if_neg (by decide), if_pos rfl]
    show xLS HW 11 + 1 = _
    rw [l1]
  · rw [ad_ls, if_neg (by decide), if_neg (by decide)]
    show xLS HW 12 = _
    rw [l1]
  · rw [ad_ls, if_neg (by decide), if_neg (by decide)]
    show xLS HW 16 = _
    rw [l1]
  · rw [ad_le]
    by_cases c : j = xLS h 11
    · exact (if_pos ⟨rfl, c.trans (congrFun l1 11).symm⟩).trans (if_pos c).symm
    · exact (if_neg (fun z => c (z.2.trans (congrFun l1 11)))).trans ((congrFun (congrFun l2 11) j).trans (if_neg c).symm)
  · rw [ad_le, if_neg (fun z => absurd z.1 (by decide))]
    show xLE HW 12 j = _
    rw [l2]
  · rw [ad_cn, if_neg hx]
    show xCN HW x = _
    rw [l3, c0]
    by_cases c : x = 8 ∨ (28 ≤ x ∧ x ≤ 33)
    · rw [if_pos c, if_pos c]
      rcases c with rfl | c
      · rw [e8]
      · rw [C.2.1 x c.1 c.2]
    · rw [if_neg c, if_neg c]
theorem Chn.up {fr fr' : Nat → Nat → Option Nat} {n n' : Nat} (hn : n ≤ n') (e : ∀ k r, k / 100 = 5 → fr' k r = fr k r) : ∀ {R : List Nat} {o : Option Nat}, Chn fr n o R → Chn fr' n' o R := by
  intro R
  induction R with
  | nil => intro o h; exact h
  | cons r R ih =>
    intro o h
    obtain ⟨h1, ⟨t, h2, h3⟩, h4⟩ := h
    refine ⟨h1, ⟨t, (e 500 r (by decide)).trans h2, by omega⟩, ?_⟩
    rw [e 504 r (by decide)]
    exact ih h4
theorem NewT.cw {h H : Hp} {mo fi se da s0 mi : Nat} (W : CW h) (C : CN h) (h20 : xLS h 11 < 20) (q : NewT h H (xLS h 11) mo fi se da s0 mi) : CW H ∧ CN H := by
  obtain ⟨⟨r1, r2⟩, ⟨f1, -⟩, -, ⟨l1, l2, l3⟩, ⟨e1, e2⟩, c⟩ := q
  have g1 : ∀ f ∈ cw_f1, f / 100 ≠ 8 := by decide
  have eb : ∀ b, bj H b = bj h b := fun b => by unfold bj; rw [r1 100 b (.inl (by decide))]
  have er : ∀ j, rls H j = rls h j := fun j => by
    unfold rls
    rw [r1 301 j (.inl (by decide))]
    have : ∀ (n : Nat) (o : Option Nat), chs (xFR H) n o = chs (xFR h) n o := by
      intro n
      induction n with
      | zero => intro o; rfl
      | succ n ih =>
        intro o
        cases o with
        | none => rfl
        | some r =>
          show r :: chs (xFR H) n (xFR H 504 r) = r :: chs (xFR h) n (xFR h 504 r)
          rw [r1 504 r (.inl (by decide)), ih]
    exact this _ _
  refine ⟨⟨fun f hf => ?_, fun t ht => ?_, ?_, ?_, ?_, fun b hb => ?_⟩, ?_, fun s h1 h2 => ?_, ?_⟩
  · rw [r1 f 0 (.inl (g1 f hf))]
    exact W.fr hf
  · rw [l1] at ht
    rw [e1]
    by_cases w : t = xLS h 11
    · subst w
      rw [if_pos rfl]
      exact ⟨rfl, r2⟩
    · rw [if_neg w]
      refine ⟨W.tle (by omega), fun f hf => ?_⟩
      rw [r1 f t (.inr w)]
      exact W.tfr (by omega) hf
  · rw [l1]
    omega
  · rw [l2]
    exact W.b30
  · rw [c 15 (by decide), if_neg (by decide)]
    exact W.c15
  · rw [l2] at hb
    rw [e2, eb, er, r1 100 b (.inl (by decide)), r1 301 _ (.inl (by decide)), l1, c 3 (by decide), if_neg (by decide), c 5 (by decide), if_neg (by decide)]
    exact ⟨W.ble hb, W.jb hb, Chn.up (by omega) (fun k r hk => r1 k r (.inl (by omega))) (W.jc hb), W.j3 hb, fun r hr => W.r5 hb hr⟩
  · rw [c 8 (by decide), if_pos (.inl rfl), l1]
  · rw [c s (by omega), if_pos (.inr ⟨h1, h2⟩), l1]
  · rw [c 1 (by decide), if_neg (by decide), l2]
    exact C.2.2
def NewB (T H : Hp) (B jr fv : Nat) : Prop :=
  ((∀ f i, f / 100 ≠ 1 ∨ i ≠ B → xFR H f i = xFR T f i) ∧ xFR H 100 B = some jr) ∧
  ((∀ f i, f / 100 ≠ 1 ∨ i ≠ B → f ≠ 1200 → xFI H f i = xFI T f i) ∧ xFI H 101 B = nI fv ∧ xFI H 102 B = xFI T 905 0 ∧ xFI H 103 B = 0) ∧
  (∀ s, s ≠ 27 → ∀ i j, xAI H s i j = xAI T s i j) ∧
  (xLS H 11 = xLS T 11 ∧ xLS H 12 = B + 1 ∧ xLS H 16 = xLS T 16) ∧ ((∀ j, xLE H 11 j = xLE T 11 j) ∧ ∀ j, xLE H 12 j = if j = B then B else xLE T 12 j) ∧
  ∀ x, x ≠ 14 → xCN H x = if x = 1 then B + 1 else xCN T x
theorem bookC {T X : Hp} (C : CN T) {jr fv : Nat} (q : FX [] [27] (sNO T 1) X) : NewB T (H_add (F_X0_init X (xCN T 1) jr (nI fv) (xFI X 905 0)) 12 (xCN T 1)) (xLS T 12) jr fv := by
  have e1 := C.2.2
  rw [e1]
  have x1 : xFR X = xFR (sNO T 1) := q.1.1
  have x2 : X.2.2.2 = (sNO T 1).2.2.2 := q.1.2
  have xl : xLS X = xLS T := congrArg (fun x => x.2.2.1) x2
  have xe : xLE X = xLE T := congrArg (fun x => x.2.1) x2
  have xc : xCN X = xCN (sNO T 1) := congrArg (fun x => x.1) x2
  have nfi : ∀ f i, xFI (sNO T 1) f i = if f / 100 = 1 ∧ i = xCN T 1 then 0 else xFI T f i := fun _ _ => rfl
  have nfr : ∀ f i, xFR (sNO T 1) f i = if f / 100 = 1 ∧ i = xCN T 1 then none else xFR T f i := fun _ _ => rfl
  have ncn : ∀ x, xCN (sNO T 1) x = if x = 1 then xCN T 1 + 1 else xCN T x := fun _ => rfl
  have e905 : xFI X 905 0 = xFI T 905 0 := (q.2.1 905 (by simp) 0).trans (by rw [nfi, if_neg (by omega)])
  rw [e905]
  unfold F_X0_init
  refine ⟨⟨fun f i z => ?_, ?_⟩, ⟨fun f i z z2 => ?_, ?_, ?_, ?_⟩, fun s hs i j => ?_, ⟨?_, ?_, ?_⟩, ⟨fun j => ?_, fun j => ?_⟩, fun x hx => ?_⟩
  · rw [ad_fr, fr_sfi, fr_sfi, fr_sfi, fr_fr, if_neg (by omega), x1, nfr, if_neg (by omega)]
  · rw [ad_fr, fr_sfi, fr_sfi, fr_sfi, fr_eq]
  · rw [ad_fi z2, fi_fi, if_neg (by omega), fi_fi, if_neg (by omega), fi_fi, if_neg (by omega), fi_sfr, q.2.1 f (by simp), nfi, if_neg (by omega)]
  · rw [ad_fi (by decide), fi_ne (by decide), fi_ne (by decide), fi_eq]
  · rw [ad_fi (by decide), fi_ne (by decide), fi_eq]
  · rw [ad_fi (by decide), fi_eq]
  · rw [ad_ai]
    show xAI X s i j = _
    rw [q.2.2 s (by simpa using hs)]
    rfl
  · rw [ad_ls, if_neg (by decide), if_neg (by decide)]
    show xLS X 11 = _
    rw [xl]
  · rw [ad_ls, if_neg (by decide), if_pos rfl]
    show xLS X 12 + 1 = _
    rw [xl]
  · rw [ad_ls, if_neg (by decide), if_neg (by decide)]
    show xLS X 16 = _
    rw [xl]
  · rw [ad_le, if_neg (fun z => absurd z.1 (by decide))]
    show xLE X 11 j = _
    rw [xe]
  · rw [ad_le]
    by_cases c : j = xLS T 12
    · exact (if_pos ⟨rfl, c.trans (congrFun xl 12).symm⟩).trans (if_pos c).symm
    · exact (if_neg (fun z => c (z.2.trans (congrFun xl 12)))).trans ((congrFun (congrFun xe 12) j).trans (if_neg c).symm)
  · rw [ad_cn, if_neg hx]
    show xCN X x = _
    rw [xc, ncn, e1]
theorem NewB.old {T H : Hp} {B jr fv : Nat} (q : NewB T H B jr fv) {b : Nat} (hb : b ≠ B) : bj H b = bj T b := by
  unfold bj
  rw [q.1.1 100 b (.inr hb)]
theorem NewB.rl {T H : Hp} {B jr fv : Nat} (q : NewB T H B jr fv) (j : Nat) : rls H j = rls T j := by
  unfold rls
  rw [q.1.1 301 j (.inl (by decide))]
  have : ∀ (n : Nat) (o : Option Nat), chs (xFR H) n o = chs (xFR T) n o := by
    intro n
    induction n with
    | zero => intro o; rfl
    | succ n ih =>
      intro o
      cases o with
      | none => rfl
      | some r =>
        show r :: chs (xFR H) n (xFR H 504 r) = r :: chs (xFR T) n (xFR T 504 r)
        rw [q.1.1 504 r (.inl (by decide)), ih]
  exact this _ _
theorem NewB.cw {T H : Hp} {jr fv : Nat} (W : CW T) (C : CN T) (h30 : xLS T 12 < 30) (q : NewB T H (xLS T 12) jr fv) (hj : jr < xCN T 3) (hc : Chn (xFR T) (xLS T 11) (xFR T 301 jr) (rls T jr)) (hr : ∀ r, r ∈ rls T jr → r < xCN T 5) : CW H ∧ CN H := by
  have er := q.rl
  have eo := fun {b : Nat} (hb : b ≠ xLS T 12) => q.old hb
  obtain ⟨⟨r1, r2⟩, ⟨f1, -⟩, -, ⟨l1, l2, l3⟩, ⟨e1, e2⟩, c⟩ := q
  have g1 : ∀ f ∈ cw_f1, f / 100 ≠ 1 := by decide
  have g2 : ∀ f ∈ cw_f2, f / 100 ≠ 1 := by decide
  have ej : bj H (xLS T 12) = jr := by unfold bj; rw [r2]; rfl
  refine ⟨⟨fun f hf => ?_, fun t ht => ?_, ?_, ?_, ?_, fun b hb => ?_⟩, ?_, fun s h1 h2 => ?_, ?_⟩
  · rw [r1 f 0 (.inl (g1 f hf))]
    exact W.fr hf
  · rw [l1] at ht
    rw [e1]
    refine ⟨W.tle ht, fun f hf => ?_⟩
    rw [r1 f t (.inl (g2 f hf))]
    exact W.tfr ht hf
  · rw [l1]
    exact W.t20
  · rw [l2]
    omega
  · rw [c 15 (by decide), if_neg (by decide)]
    exact W.c15
  · rw [l2] at hb
    rw [l1, c 3 (by decide), if_neg (by decide), c 5 (by decide), if_neg (by decide), e2, er]
    by_cases w : b = xLS T 12
    · subst w
      rw [ej, if_pos rfl, r1 301 jr (.inl (by decide))]
      exact ⟨rfl, r2, Chn.up (Nat.le_refl _) (fun k r hk => r1 k r (.inl (by omega))) hc, hj, hr⟩
    · have hb' : b < xLS T 12 := by omega
      rw [eo w, if_neg w, r1 100 b (.inr w), r1 301 _ (.inl (by decide))]
      exact ⟨W.ble hb', W.jb hb', Chn.up (Nat.le_refl _) (fun k r hk => r1 k r (.inl (by omega))) (W.jc hb'), W.j3 hb', fun r hr' => W.r5 hb' hr'⟩
  · rw [c 8 (by decide), if_neg (by decide), l1]
    exact C.1
  · rw [c s (by omega), if_neg (by omega), l1]
    exact C.2.1 s h1 h2
  · rw [c 1 (by decide), if_pos rfl, l2]
