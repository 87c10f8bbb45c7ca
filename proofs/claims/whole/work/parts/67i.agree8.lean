/-! ===== own: class and reference agree: calls ===== -/
theorem bk_in {H : Hp} {t s ri wa bo : Int32} {b len : Nat} {rec64 kx : Int32 → Nat → (Int32 × Hp)} (hb : b < 30) (hl : xAI (sFI H 1043 0 0) 67 0 b = nI len) (h4 : len ≤ 4) : ∀ (m r fu : Nat) (bp : Int32), r + m = len → m < fu → (bp = 0 ∨ bp = 1) →
    ∃ bp' : Int32, (bp' = 0 ∨ bp' = 1) ∧ L_X9_calls_76 H t s ri wa bo b rec64 kx fu bp r = kx bp' len ∧ (bp' = 1 ↔ (bp = 1 ∨ ∃ k, r ≤ k ∧ k < len ∧ xAI (sFI H 1043 0 0) 71 0 (4 * b + k) = t)) := by
  intro m
  induction m with
  | zero =>
    intro r fu bp hr hf h01
    obtain ⟨fu, rfl⟩ : ∃ g, fu = g + 1 := ⟨fu - 1, by omega⟩
    have : r = len := by omega
    subst this
    refine ⟨bp, h01, ?_, fun z => .inl z, fun z => ?_⟩
    · rw [L_X9_calls_76_s]
      unfold B_X9_calls_76
      rw [nI_clamp (by omega), hl, if_pos (nI_le (by omega) (by omega))]
    · rcases z with z | ⟨k, k1, k2, -⟩
      · exact z
      · omega
  | succ m ih =>
    intro r fu bp hr hf h01
    obtain ⟨fu, rfl⟩ : ∃ g, fu = g + 1 := ⟨fu - 1, by omega⟩
    rw [L_X9_calls_76_s]
    unfold B_X9_calls_76
    rw [nI_clamp (by omega), hl, if_neg (fun q => by have := (nI_leI (by omega) (by omega)).mp q; omega), xi4, nI_clamp (by omega)]
    rcases h01 with rfl | rfl
    · rw [if_pos rfl]
      by_cases q : xAI (sFI H 1043 0 0) 71 0 (4 * b + r) = t
      · rw [if_pos q]
        obtain ⟨x, x1, x2, x3⟩ := ih (r + 1) fu 1 (by omega) (by omega) (.inr rfl)
        exact ⟨x, x1, x2, fun _ => .inr ⟨r, Nat.le_refl _, by omega, q⟩, fun _ => x3.mpr (.inl rfl)⟩
      · rw [if_neg q]
        obtain ⟨x, x1, x2, x3⟩ := ih (r + 1) fu 0 (by omega) (by omega) (.inl rfl)
        refine ⟨x, x1, x2, fun z => ?_, fun z => ?_⟩
        · rcases x3.mp z with z | ⟨k, k1, k2⟩
          · exact absurd z (by decide)
          · exact .inr ⟨k, by omega, k2⟩
        · rcases z with z | ⟨k, k1, k2, k3⟩
          · exact absurd z (by decide)
          · refine x3.mpr (.inr ⟨k, ?_, k2, k3⟩)
            by_cases e : k = r
            · subst e; exact absurd k3 q
            · omega
    · rw [if_neg (by decide)]
      obtain ⟨x, x1, x2, x3⟩ := ih (r + 1) fu 1 (by omega) (by omega) (.inr rfl)
      exact ⟨x, x1, x2, fun _ => .inl rfl, fun _ => x3.mpr (.inl rfl)⟩
theorem bk_out {H : Hp} {t s ri wa : Int32} {B : Nat} {len : Nat → Nat} {kx : Int32 → Nat → (Int32 × Hp)} (hB : B ≤ 30) (hb1 : xFI (sFI H 1043 0 0) 1031 0 = nI B) (hl : ∀ b, b < B → xAI (sFI H 1043 0 0) 67 0 b = nI (len b)) (h4 : ∀ b, b < B → len b ≤ 4) : ∀ (m b fu : Nat) (bo : Int32), b + m = B → m < fu → (bo = 0 ∨ bo = 1) →
    ∃ bo' : Int32, (bo' = 0 ∨ bo' = 1) ∧ L_X9_calls_64 H t s ri wa kx fu bo b = kx bo' B ∧ (bo' = 1 ↔ (bo = 1 ∨ ∃ b', b ≤ b' ∧ b' < B ∧ ∃ k, k < len b' ∧ xAI (sFI H 1043 0 0) 71 0 (4 * b' + k) = t)) := by
  intro m
  induction m with
  | zero =>
    intro b fu bo hb hf h01
    obtain ⟨fu, rfl⟩ : ∃ g, fu = g + 1 := ⟨fu - 1, by omega⟩
    have : b = B := by omega
    subst this
    refine ⟨bo, h01, ?_, fun z => .inl z, fun z => ?_⟩
    · rw [L_X9_calls_64_s]
      unfold B_X9_calls_64
      rw [hb1, if_pos (nI_le (by omega) (by omega))]
    · rcases z with z | ⟨b', k1, k2, -⟩
      · exact z
      · omega
  | succ m ih =>
    intro b fu bo hb hf h01
    obtain ⟨fu, rfl⟩ : ∃ g, fu = g + 1 := ⟨fu - 1, by omega⟩
    rw [L_X9_calls_64_s]
    unfold B_X9_calls_64
    rw [hb1, if_neg (fun q => by have := (nI_leI (by omega) (by omega)).mp q; omega)]
    obtain ⟨x, x1, x2, x3⟩ := bk_in (H := H) (t := t) (s := s) (ri := ri) (wa := wa) (bo := bo) (rec64 := L_X9_calls_64 H t s ri wa kx fu) (kx := K_X9_calls_76 H t s ri wa bo b (L_X9_calls_64 H t s ri wa kx fu)) (show b < 30 by omega) (hl b (by omega)) (h4 b (by omega)) (len b) 0 (2147483648 - 0 + 1) bo (by omega) (by have := h4 b (by omega); omega) h01
    rw [x2]
    unfold K_X9_calls_76
    obtain ⟨y, y1, y2, y3⟩ := ih (b + 1) fu x (by omega) (by omega) x1
    refine ⟨y, y1, y2, fun z => ?_, fun z => ?_⟩
    · rcases y3.mp z with z | ⟨b', k1, k2⟩
      · rcases x3.mp z with z | ⟨k, -, k2, k3⟩
        · exact .inl z
        · exact .inr ⟨b, Nat.le_refl _, by omega, k, k2, k3⟩
      · exact .inr ⟨b', by omega, k2⟩
    · rcases z with z | ⟨b', k1, k2, k, k3, k4⟩
      · exact y3.mpr (.inl (x3.mpr (.inl z)))
      · by_cases e : b' = b
        · subst e
          exact y3.mpr (.inl (x3.mpr (.inr ⟨k, Nat.zero_le _, k3, k4⟩)))
        · exact y3.mpr (.inr ⟨b', by omega, k2, k, k3, k4⟩)
/-- whether a trip is booked, the class's way -/
theorem bk_cls {h : Hp} (W : CW h) {t : Nat} : ∀ (m i fu : Nat), i + m = xLS h 12 → m < fu →
    (L_X8_isBooked_2 h t fu i = 0 ∧ ∀ b, i ≤ b → b < xLS h 12 → ∀ r, r ∈ rls h (bj h b) → ¬ xFI h 800 (tr h r) = xFI h 800 t) ∨ (L_X8_isBooked_2 h t fu i = 1 ∧ ∃ b, i ≤ b ∧ b < xLS h 12 ∧ ∃ r, r ∈ rls h (bj h b) ∧ xFI h 800 (tr h r) = xFI h 800 t) := by
  have h30 := W.b30
  intro m
  induction m with
  | zero =>
    intro i fu hi hf
    obtain ⟨fu, rfl⟩ : ∃ g, fu = g + 1 := ⟨fu - 1, by omega⟩
    refine .inl ⟨?_, fun b h1 h2 => by omega⟩
    rw [L_X8_isBooked_2_s]
    unfold B_X8_isBooked_2
    rw [if_pos (nI_le (by omega) (by omega))]
  | succ m ih =>
    intro i fu hi hf
    obtain ⟨fu, rfl⟩ : ∃ g, fu = g + 1 := ⟨fu - 1, by omega⟩
    rw [L_X8_isBooked_2_s]
    unfold B_X8_isBooked_2 F_X2_goesBy
    rw [if_neg (fun q => by have := (nI_leI (by omega) (by omega)).mp q; omega)]
    rcases gb_spec (h := h) (j := bj h i) (t := t) (dy := -1) (rls h (bj h i)) (rls h (bj h i)) with ⟨e, r, hr, q, -⟩ | ⟨e, q⟩
    · rw [e, if_neg (by decide)]
      exact .inr ⟨rfl, i, Nat.le_refl _, by omega, r, hr, q⟩
    · rw [e, if_pos rfl]
      rcases ih (i + 1) fu (by omega) (by omega) with ⟨e2, q2⟩ | ⟨e2, b, b1, b2⟩
      · refine .inl ⟨e2, fun b h1 h2 r hr z => ?_⟩
        by_cases eb : b = i
        · subst eb; exact q r hr ⟨z, .inl rfl⟩
        · exact q2 b (by omega) h2 r hr z
      · exact .inr ⟨e2, b, by omega, b2⟩
theorem FX.putx {fs ss : List Nat} {h : Hp} {s i : Nat} {x v : Int32} (hs : s ∈ ss) : FX fs ss h (H_put h s i x v) := ⟨⟨rfl, rfl⟩, fun _ _ _ => rfl, fun s' hs' i' j' => by
  show A_put h s i x v s' i' j' = h.2.2.1 s' i' j'
  unfold A_put
  split
  · rfl
  · split
    · rfl
    · unfold up3
      rw [if_neg (fun q => hs' (by rw [q.1]; exact hs))]⟩
theorem up1_eq {α : Type} {f : Nat → α} {a : Nat} {v : α} : up1 f a v a = v := if_pos rfl
theorem up1_ne {α : Type} {f : Nat → α} {a x : Nat} {v : α} (h : x ≠ a) : up1 f a v x = f x := if_neg h
/-- the trip k goes on -/
theorem ag_callsI {S : Nat → Int32} {n : Nat} {h : Hp} (I : Inv S n h) {k len s0 l0 r0 w0 : Nat} (hk : k < xLS h 11) (hl6 : len < 6) (hl1 : 1 ≤ len) (e810 : xFI h 810 k = nI len) {nn : Nat} (hnn : RStop h nn) (hsn : s0 < nn) (hl0 : xAI h 30 k (len - 1) = nI l0) (hl9 : l0 ≤ 10000) (hr : 1 ≤ r0) (hr3 : r0 ≤ 300) (hw : w0 ≤ 60) {v : Int64}
    (D : DM (sAI (sAI (sAI (sAI (sFI (sAL (sFI (sAI (sAI (sAI h 28 k len (nI s0)) 29 k len (nI (l0 + r0))) 30 k len (nI (l0 + r0 + w0))) 810 k (nI (len + 1))) v) 1043 0 0) 47 0 (6 * k + len) (nI s0)) 48 0 (6 * k + len) (nI (l0 + r0))) 49 0 (6 * k + len) (nI (l0 + r0 + w0))) 46 0 k (nI (len + 1)))) :
    Inv S n (sAI (sAI (sAI (sAI (sFI (sAL (sFI (sAI (sAI (sAI h 28 k len (nI s0)) 29 k len (nI (l0 + r0))) 30 k len (nI (l0 + r0 + w0))) 810 k (nI (len + 1))) v) 1043 0 0) 47 0 (6 * k + len) (nI s0)) 48 0 (6 * k + len) (nI (l0 + r0))) 49 0 (6 * k + len) (nI (l0 + r0 + w0))) 46 0 k (nI (len + 1))) := by
  obtain ⟨⟨n0, hs, htr⟩, hwk, h3, htn, hpr, hno, hb, hbr, hc⟩ := I.R
  have e0 : n0 = nn := nI_inj (by have := hs.1; omega) (by have := hnn.1; omega) (hs.2.1.symm.trans hnn.2.1)
  subst e0
  refine ⟨I.W, I.C, I.MW, D, I.S, ⟨n0, hs, fun t ht => ?_⟩, hwk, h3, htn, hpr, hno, hb, fun b hb' => ?_, hc⟩
  · obtain ⟨a, b, c', e, ⟨ln, st, lv, ar, r1, r2, r3, r4, r5⟩, f, g⟩ := htr t ht
    refine ⟨a, b, c', e, ?_, f, g⟩
    by_cases q : t = k
    · subst q
      have el : ln = len := nI_inj (by omega) (by omega) (r3.symm.trans e810)
      subst el
      obtain ⟨-, -, -, z4, -, z6, -⟩ := r5 (ln - 1) (by omega)
      have el0 : lv (ln - 1) = l0 := by
        exact nI_inj (by omega) (by omega) (z4.symm.trans hl0)
      refine ⟨ln + 1, up1 st ln s0, up1 lv ln (l0 + r0 + w0), up1 ar ln (l0 + r0), by omega, by omega, if_pos ⟨rfl, rfl⟩, if_pos ⟨rfl, rfl, rfl⟩, fun p hp => ?_⟩
      by_cases pe : p = ln
      · subst pe
        refine ⟨(if_pos ⟨rfl, rfl, rfl⟩).trans (by rw [up1_eq]), (if_pos ⟨rfl, rfl, rfl⟩).trans (by rw [up1_eq]), by rw [up1_eq]; exact hsn, (if_pos ⟨rfl, rfl, rfl⟩).trans (by rw [up1_eq]), (if_pos ⟨rfl, rfl, rfl⟩).trans (by rw [up1_eq]), by rw [up1_eq]; omega, fun _ => ⟨(if_pos ⟨rfl, rfl, rfl⟩).trans (by rw [up1_eq]), (if_pos ⟨rfl, rfl, rfl⟩).trans (by rw [up1_eq]), ?_, ?_⟩⟩
        · rw [up1_ne (by omega), up1_eq]; omega
        · rw [up1_eq, up1_eq]; omega
      · obtain ⟨y1, y2, y3, y4, y5, y6, y7⟩ := r5 p (by omega)
        have i1 : ¬ 6 * t + p = 6 * t + ln := by omega
        refine ⟨(if_neg (fun z => pe z.2.2)).trans (by rw [up1_ne pe]; exact y1), (if_neg (fun z => i1 z.2.2)).trans (by rw [up1_ne pe]; exact y2), by rw [up1_ne pe]; exact y3, (if_neg (fun z => pe z.2.2)).trans (by rw [up1_ne pe]; exact y4), (if_neg (fun z => i1 z.2.2)).trans (by rw [up1_ne pe]; exact y5), by rw [up1_ne pe]; exact y6, fun p0 => ?_⟩
        obtain ⟨u1, u2, u3, u4⟩ := y7 p0
        exact ⟨(if_neg (fun z => pe z.2.2)).trans (by rw [up1_ne pe]; exact u1), (if_neg (fun z => i1 z.2.2)).trans (by rw [up1_ne pe]; exact u2), by rw [up1_ne (by omega), up1_ne pe]; exact u3, by rw [up1_ne pe, up1_ne pe]; exact u4⟩
    · refine ⟨ln, st, lv, ar, r1, r2, (if_neg (fun z => q z.2)).trans r3, (if_neg (fun z => q z.2.2)).trans r4, fun p hp => ?_⟩
      obtain ⟨y1, y2, y3, y4, y5, y6, y7⟩ := r5 p hp
      have i1 : ¬ 6 * t + p = 6 * k + len := by omega
      refine ⟨(if_neg (fun z => q z.2.1)).trans y1, (if_neg (fun z => i1 z.2.2)).trans y2, y3, (if_neg (fun z => q z.2.1)).trans y4, (if_neg (fun z => i1 z.2.2)).trans y5, y6, fun p0 => ?_⟩
      obtain ⟨u1, u2, u3, u4⟩ := y7 p0
      exact ⟨(if_neg (fun z => q z.2.1)).trans u1, (if_neg (fun z => i1 z.2.2)).trans u2, u3, u4⟩
  · obtain ⟨b1, b2, b3, l1, l4, b4, b5, b6, b7, b8, hk2⟩ := hbr b hb'
    refine ⟨b1, b2, b3, l1, l4, b4, b5, b6, b7, b8, fun i r hir => ?_⟩
    obtain ⟨q1, d, bo, le, q2, q3, q4, q5, q6, q7⟩ := hk2 i r hir
    refine ⟨q1, d, bo, le, q2, q3, q4, ?_, ?_, q7⟩
    · by_cases e : tr h r = k
      · exact fun z => nI_ne0 (n := len + 1) (by omega) (by omega) ((if_pos (⟨rfl, e⟩ : 810 = 810 ∧ tr h r = k)).symm.trans z)
      · exact fun z => q5 ((if_neg (fun w : 810 = 810 ∧ tr h r = k => e w.2)).symm.trans z)
    · by_cases e : tr h r = k
      · rw [e, e810] at q6
        exact fun z => q6 (Int32.le_trans (nI_le (Nat.le_succ len) (by omega)) (Eq.subst (motive := fun x => x ≤ nI le) (if_pos (⟨rfl, e⟩ : 810 = 810 ∧ tr h r = k)) z))
      · exact fun z => q6 (Eq.subst (motive := fun x => x ≤ nI le) (if_neg (fun w : 810 = 810 ∧ tr h r = k => e w.2)) z)
theorem ag_calls_L {S : Nat → Int32} {n : Nat} {h : Hp} (I : Inv S n h) (t s ri wa : Int32) : okR t 0 (xFI (A1_calls h t s ri wa) 1003 0 - 1) → ¬ xAI (A1_calls h t s ri wa) 46 0 t.toNatClampNeg ≤ 0 := by
  obtain ⟨⟨n0, hs, htr⟩, hwk, h3, hrest⟩ := I.R
  have h20 := I.W.t20
  have pass : ∀ {H : Hp}, xFI H 1003 0 = xFI h 1003 0 → (∀ j, xAI H 46 0 j = xAI h 46 0 j) → okR t 0 (xFI H 1003 0 - 1) → ¬ xAI H 46 0 t.toNatClampNeg ≤ 0 := by
    intro H e1 e2 p
    rw [e1, h3, okM_iff (by omega)] at p
    obtain ⟨k, hk, rfl⟩ := p
    obtain ⟨-, -, -, -, ⟨ln, st, lv, ar, r1, r2, r3, r4, r5⟩, -⟩ := htr k hk
    rw [nI_clamp (by omega), e2, r4]
    exact fun z => by have := (nI_leI (b := 0) (by omega) (by decide)).mp z; omega
  have goP : ∀ {X : Rs} {Y : Hp}, xFI Y 1003 0 = xFI h 1003 0 → (∀ j, xAI Y 46 0 j = xAI h 46 0 j) → okR t 0 (xFI (loI X Y) 1003 0 - 1) → ¬ xAI (loI X Y) 46 0 t.toNatClampNeg ≤ 0 := by
    intro X Y e1 e2
    unfold loI
    split
    · exact pass (H := sAL Y _) e1 e2
    · exact pass e1 e2
  have gF : xFI (F_X8_calls h t s ri wa).2 1003 0 = xFI h 1003 0 ∧ ∀ j, xAI (F_X8_calls h t s ri wa).2 46 0 j = xAI h 46 0 j := by
    have q : FX [810] [28, 29, 30] h (F_X7_goOn h t.toNatClampNeg s ri wa) := by
      unfold F_X7_goOn
      exact (((FX.putx (by decide)).trans (FX.putx (by decide))).trans (FX.putx (by decide))).trans (FX.sfi (by decide))
    unfold F_X8_calls
    repeat' split
    all_goals first | exact ⟨rfl, fun _ => rfl⟩ | exact ⟨q.2.1 1003 (by decide) 0, fun j => q.2.2 46 (by decide) 0 j⟩
  unfold A1_calls
  exact goP gF.1 gF.2
theorem m_calls {H : Hp} {n0 T k B : Nat} {len : Nat → Nat} {s0 l0 ln r0 w0 : Nat} (h3 : xFI H 1003 0 = nI T) (hT : T ≤ 20) (h1 : xFI H 1000 0 = nI n0) (hn : n0 ≤ 10) (hk : k < T) (hs : s0 < n0) (p1 : okR (nI r0) 1 300) (p2 : okR (nI w0) 0 60)
    (hB : B ≤ 30) (hb1 : xFI H 1031 0 = nI B) (hl : ∀ b, b < B → xAI H 67 0 b = nI (len b)) (h4 : ∀ b, b < B → len b ≤ 4) (e46 : xAI H 46 0 k = nI ln) (hln : 1 ≤ ln ∧ ln ≤ 6) (e49 : ln < 6 → xAI H 49 0 (6 * k + (ln - 1)) = nI l0) :
    F_X9_calls H (nI k) (nI s0) (nI r0) (nI w0) = (if ln = 6 ∨ (∃ b, b < B ∧ ∃ i, i < len b ∧ xAI H 71 0 (4 * b + i) = nI k) then (0, sFI (sFI H 1043 0 0) 1043 0 3) else (nI (ln + 1), sAI (sAI (sAI (sAI (sFI H 1043 0 0) 47 0 (6 * k + ln) (nI s0)) 48 0 (6 * k + ln) (nI (l0 + r0))) 49 0 (6 * k + ln) (nI (l0 + r0 + w0))) 46 0 k (nI (ln + 1)))) := by
  obtain ⟨bo, x1, x2, x3⟩ := bk_out (H := H) (t := nI k) (s := nI s0) (ri := nI r0) (wa := nI w0) (B := B) (len := len) (kx := K_X9_calls_64 H (nI k) (nI s0) (nI r0) (nI w0)) hB hb1 hl h4 B 0 (2147483648 - 0 + 1) 0 (by omega) (by omega) (.inl rfl)
  unfold F_X9_calls
  rw [if_pos (by rw [h3]; exact (okM_iff (by omega)).mpr ⟨k, hk, rfl⟩), if_pos (by rw [h1]; exact (okM_iff (by omega)).mpr ⟨s0, hs, rfl⟩), if_pos p1, if_pos p2, x2]
  unfold K_X9_calls_64
  have a1 : xAI (sFI H 1043 0 0) 46 0 k = nI ln := e46
  simp only [nI_clamp (show k < 2 ^ 31 by omega), a1]
  have yes : (∃ b, b < B ∧ ∃ i, i < len b ∧ xAI H 71 0 (4 * b + i) = nI k) ↔ bo = 1 := by
    rw [x3]
    constructor
    · rintro ⟨b, q1, i, q2, q3⟩; exact .inr ⟨b, Nat.zero_le _, q1, i, q2, q3⟩
    · rintro (z | ⟨b, -, q1, i, q2, q3⟩)
      · exact absurd z (by decide)
      · exact ⟨b, q1, i, q2, q3⟩
  by_cases c6 : ln = 6
  · subst c6
    rw [if_pos (show nI 6 = 6 from rfl), if_pos (.inl rfl)]
  · rw [if_neg (c := nI ln = (6 : Int32)) (fun q => c6 (nI_inj (a := ln) (b := 6) (by omega) (by decide) q))]
    rcases x1 with rfl | rfl
    · rw [if_pos rfl, if_neg (fun q => by
        rcases q with q | q
        · exact c6 q
        · exact absurd (yes.mp q) (by decide))]
      have i1 : (6 * nI k + nI ln).toNatClampNeg = 6 * k + ln := by rw [xi6, nI_clamp (by omega)]
      have i2 : (6 * nI k + nI ln - 1).toNatClampNeg = 6 * k + (ln - 1) := by
        obtain ⟨m, rfl⟩ : ∃ m, ln = m + 1 := ⟨ln - 1, by omega⟩
        rw [xi6, ← Nat.add_assoc, nI_pred, nI_clamp (by omega)]
        rfl
      simp only [i1, i2]
      have a2 : xAI (sAI (sFI H 1043 0 0) 47 0 (6 * k + ln) (nI s0)) 49 0 (6 * k + (ln - 1)) = nI l0 := e49 (by omega)
      have ne1 : ¬ (46 : Nat) = 49 := by decide
      simp only [a2, nI_add]
      have a3 : xAI (sAI (sAI (sFI H 1043 0 0) 47 0 (6 * k + ln) (nI s0)) 48 0 (6 * k + ln) (nI (l0 + r0))) 48 0 (6 * k + ln) = nI (l0 + r0) := if_pos ⟨rfl, rfl, rfl⟩
      simp only [a3, nI_add]
      have a4 : xAI (sAI (sAI (sAI (sFI H 1043 0 0) 47 0 (6 * k + ln) (nI s0)) 48 0 (6 * k + ln) (nI (l0 + r0))) 49 0 (6 * k + ln) (nI (l0 + r0 + w0))) 46 0 k = nI ln := e46
      rw [a4, show nI ln + 1 = nI (ln + 1) from nI_add ln 1, ai_ai, if_pos ⟨rfl, rfl, rfl⟩]
    · rw [if_neg (by decide), if_pos (.inr (yes.mpr rfl))]
theorem ag_calls {S : Nat → Int32} {n : Nat} {h : Hp} (I : Inv S n h) (t s ri wa : Int32) : AG S n [cy_e3, cy_e1, cy_e2] (F_X8_calls h t s ri wa).1 (A1_calls h t s ri wa) (F_X9_calls (A1_calls h t s ri wa) t s ri wa).2 (xAL (F_X9_calls (A1_calls h t s ri wa) t s ri wa).2 0 = (F_X9_calls (A1_calls h t s ri wa) t s ri wa).1.toInt64) := by
  obtain ⟨⟨n0, hs, htr⟩, hwk, h3, htn, hpr, hno, hb1, hbr, hc⟩ := I.R
  have h20 := I.W.t20
  have h30 := I.W.b30
  have h10 := hs.1
  have E : ∀ {E : String}, F_X8_calls h t s ri wa = (.inr E, h) → A1_calls h t s ri wa = h := fun e => by unfold A1_calls; rw [e]; rfl
  by_cases pt : okT h t
  · have kt := (okT_iff I.W).mp pt
    have mt : okR t 0 (xFI h 1003 0 - 1) := by rw [h3]; exact (okM_iff (by omega)).mpr kt
    by_cases ps : okS h s
    · have ks := (okS_iff hs.2.1 h10).mp ps
      have ms : okR s 0 (xFI h 1000 0 - 1) := by rw [hs.2.2.1]; exact (okM_iff (by omega)).mpr ks
      by_cases pr : okR ri 1 300
      · by_cases pw : okR wa 0 60
        · obtain ⟨k, hk, rfl⟩ := kt
          obtain ⟨s0, hs0, rfl⟩ := ks
          obtain ⟨r0, rfl, r1, r3⟩ := okR_of (a := 1) (n := 300) (by decide) (by decide) pr
          obtain ⟨w0, rfl, -, w6⟩ := okR_of (a := 0) (n := 60) (by decide) (by decide) pw
          obtain ⟨t1, -, -, -, ⟨ln, st, lv, ar, q1, q2, q3, q4, q5⟩, -⟩ := htr k hk
          obtain ⟨-, -, -, q6, q7, q8, -⟩ := q5 (ln - 1) (by omega)
          have hlen : ∀ b, b < xLS h 12 → xAI h 67 0 b = nI (rls h (bj h b)).length ∧ (rls h (bj h b)).length ≤ 4 := fun b hb => ⟨(hbr b hb).2.2.2.2.2.2.1, (hbr b hb).2.2.2.2.1⟩
          -- booked, both ways
          have bkd : (∃ b, b < xLS h 12 ∧ ∃ i, i < (rls h (bj h b)).length ∧ xAI h 71 0 (4 * b + i) = nI k) ↔ ∃ b, b < xLS h 12 ∧ ∃ r, r ∈ rls h (bj h b) ∧ xFI h 800 (tr h r) = xFI h 800 k := by
            constructor
            · rintro ⟨b, hb, i, hi, e⟩
              have hg := List.getElem?_eq_getElem hi
              refine ⟨b, hb, _, List.mem_of_getElem? hg, ?_⟩
              have hlt := tr_lt I.W hb (List.mem_of_getElem? hg)
              rw [(htr _ hlt).1, t1, ← e, ((hbr b hb).2.2.2.2.2.2.2.2.2.2 i _ hg).1]
            · rintro ⟨b, hb, r, hr, e⟩
              obtain ⟨i, hi, hi2⟩ := List.getElem_of_mem hr
              have hg : (rls h (bj h b))[i]? = some r := by rw [List.getElem?_eq_getElem hi, hi2]
              have hlt := tr_lt I.W hb hr
              rw [(htr _ hlt).1, t1] at e
              exact ⟨b, hb, i, hi, by rw [((hbr b hb).2.2.2.2.2.2.2.2.2.2 i _ hg).1, e]⟩
          have cls := bk_cls I.W (t := k) (xLS h 12) 0 (2147483648 - 0 + 1) (by omega) (by omega)
          by_cases c : ln = 6 ∨ (∃ b, b < xLS h 12 ∧ ∃ i, i < (rls h (bj h b)).length ∧ xAI h 71 0 (4 * b + i) = nI k)
          · have e8 : F_X8_calls h (nI k) (nI s0) (nI r0) (nI w0) = (.inr cy_e2, h) := by
              unfold F_X8_calls
              rw [if_pos pt, if_pos ps, if_pos pr, if_pos pw, nI_clamp (by omega), q3]
              by_cases c6 : ln = 6
              · subst c6
                rw [if_pos (by decide)]
              · rw [if_neg (c := (6 : Int32) ≤ nI ln) (fun z => by have := (nI_leI (a := 6) (b := ln) (by decide) (by omega)).mp z; omega)]
                unfold F_X8_isBooked
                rcases cls with ⟨e, q⟩ | ⟨e, -⟩
                · rcases c with c | c
                  · exact absurd c c6
                  · obtain ⟨b, hb, r, hr, z⟩ := bkd.mp c
                    exact absurd z (q b (Nat.zero_le _) hb r hr)
                · rw [e, if_neg (by decide)]
            rw [E e8, e8, m_calls (l0 := lv (ln - 1)) h3 h20 hs.2.2.1 h10 hk hs0 pr pw h30 hb1 (fun b hb => (hlen b hb).1) (fun b hb => (hlen b hb).2) q4 ⟨q1, q2⟩ (fun _ => q7), if_pos c]
            exact ag_err I (k := 3) fqe2 rfl (by decide +kernel) (by decide)
          · have c6 : ln < 6 := by
              have : ln ≠ 6 := fun z => c (.inl z)
              omega
            have e8 : F_X8_calls h (nI k) (nI s0) (nI r0) (nI w0) = (.inl (some (.inl (.int (nI (ln + 1))))), sFI (sAI (sAI (sAI h 28 k ln (nI s0)) 29 k ln (nI (lv (ln - 1) + r0))) 30 k ln (nI (lv (ln - 1) + r0 + w0))) 810 k (nI (ln + 1))) := by
              have g : F_X7_goOn h k (nI s0) (nI r0) (nI w0) = sFI (sAI (sAI (sAI h 28 k ln (nI s0)) 29 k ln (nI (lv (ln - 1) + r0))) 30 k ln (nI (lv (ln - 1) + r0 + w0))) 810 k (nI (ln + 1)) := by
                obtain ⟨m, rfl⟩ : ∃ m, ln = m + 1 := ⟨ln - 1, (Nat.sub_add_cancel q1).symm⟩
                unfold F_X7_goOn
                rw [q3, nI_pred, at_in h (s := 30) (n := 6) (by decide) rfl (show m < 6 by omega) (by decide), show xAI h 30 k m = nI (lv m) from q6, nI_add, nI_add, put_in h (n := 6) (by decide) rfl c6 (by decide), fi_ai, q3, put_in _ (n := 6) (by decide) rfl c6 (by decide), fi_ai, fi_ai, q3, put_in _ (n := 6) (by decide) rfl c6 (by decide), fi_ai, fi_ai, fi_ai, q3, show nI (m + 1) + 1 = nI (m + 1 + 1) from nI_add (m + 1) 1]
                rfl
              unfold F_X8_calls F_X8_isBooked
              rw [if_pos pt, if_pos ps, if_pos pr, if_pos pw, nI_clamp (by omega), q3, if_neg (c := (6 : Int32) ≤ nI ln) (fun z => by have := (nI_leI (a := 6) (b := ln) (by decide) (by omega)).mp z; omega)]
              rcases cls with ⟨e, -⟩ | ⟨e, b, -, hb, r, hr, z⟩
              · rw [e, if_pos rfl, g, fi_fi, if_pos ⟨rfl, rfl⟩]
              · exact absurd (.inr (bkd.mpr ⟨b, hb, r, hr, z⟩)) c
            have eA : A1_calls h (nI k) (nI s0) (nI r0) (nI w0) = sAL (sFI (sAI (sAI (sAI h 28 k ln (nI s0)) 29 k ln (nI (lv (ln - 1) + r0))) 30 k ln (nI (lv (ln - 1) + r0 + w0))) 810 k (nI (ln + 1))) (nI (ln + 1)).toInt64 := by unfold A1_calls; rw [e8]; rfl
            have c' : ¬ (ln = 6 ∨ (∃ b, b < xLS h 12 ∧ ∃ i, i < (rls h (bj h b)).length ∧ xAI (sAL (sFI (sAI (sAI (sAI h 28 k ln (nI s0)) 29 k ln (nI (lv (ln - 1) + r0))) 30 k ln (nI (lv (ln - 1) + r0 + w0))) 810 k (nI (ln + 1))) (nI (ln + 1)).toInt64) 71 0 (4 * b + i) = nI k)) := c
            rw [eA, e8, m_calls (H := sAL (sFI (sAI (sAI (sAI h 28 k ln (nI s0)) 29 k ln (nI (lv (ln - 1) + r0))) 30 k ln (nI (lv (ln - 1) + r0 + w0))) 810 k (nI (ln + 1))) (nI (ln + 1)).toInt64) (l0 := lv (ln - 1)) h3 h20 hs.2.2.1 h10 hk hs0 pr pw h30 hb1 (fun b hb => (hlen b hb).1) (fun b hb => (hlen b hb).2) q4 ⟨q1, q2⟩ (fun _ => q7), if_neg c']
            exact ⟨⟨I.MW, ((((I.D.put (by decide)).put (by decide)).put (by decide)).fput (by decide)), I.S⟩, fun m => ag_callsI I hk c6 q1 q3 hs hs0 q6 (by omega) r1 r3 w6 m.2, rfl, fun _ => rfl⟩
        · have e8 : F_X8_calls h t s ri wa = (.inr cy_e1, h) := by unfold F_X8_calls; rw [if_pos pt, if_pos ps, if_pos pr, if_neg pw]
          have e9 : F_X9_calls h t s ri wa = (0, sFI (sFI h 1043 0 0) 1043 0 2) := by unfold F_X9_calls; rw [if_pos mt, if_pos ms, if_pos pr, if_neg pw]
          rw [E e8, e8, e9]
          exact ag_err I (k := 2) fqe2 rfl (by decide +kernel) (by decide)
      · have e8 : F_X8_calls h t s ri wa = (.inr cy_e1, h) := by unfold F_X8_calls; rw [if_pos pt, if_pos ps, if_neg pr]
        have e9 : F_X9_calls h t s ri wa = (0, sFI (sFI h 1043 0 0) 1043 0 2) := by unfold F_X9_calls; rw [if_pos mt, if_pos ms, if_neg pr]
        rw [E e8, e8, e9]
        exact ag_err I (k := 2) fqe2 rfl (by decide +kernel) (by decide)
    · have e8 : F_X8_calls h t s ri wa = (.inr cy_e3, h) := by unfold F_X8_calls; rw [if_pos pt, if_neg ps]
      have e9 : F_X9_calls h t s ri wa = (0, sFI h 1043 0 1) := by
        unfold F_X9_calls
        rw [if_pos mt, if_neg (fun q => ps ((okS_iff hs.2.1 h10).mpr ((okM_iff (n0 := n0) (by omega)).mp (by rw [← hs.2.2.1]; exact q))))]
      rw [E e8, e8, e9]
      exact ag_err I (k := 1) fqe1 rfl (by decide +kernel) (by decide)
  · have e8 : F_X8_calls h t s ri wa = (.inr cy_e3, h) := by unfold F_X8_calls; rw [if_neg pt]
    have e9 : F_X9_calls h t s ri wa = (0, sFI h 1043 0 1) := by
      unfold F_X9_calls
      rw [if_neg (fun q => pt ((okT_iff I.W).mpr ((okM_iff (n0 := xLS h 11) (by omega)).mp (by rw [← h3]; exact q))))]
    rw [E e8, e8, e9]
    exact ag_err I (k := 1) fqe1 rfl (by decide +kernel) (by decide)
