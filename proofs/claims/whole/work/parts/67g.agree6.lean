/-! ===== own: class and reference agree: pass, note ===== -/
/-- the same but for the fields fs and the rows ss -/
def FX (fs ss : List Nat) (h h' : Hp) : Prop := SR h h' ∧ (∀ f, f ∉ fs → ∀ i, xFI h' f i = xFI h f i) ∧ ∀ s, s ∉ ss → ∀ i j, xAI h' s i j = xAI h s i j
theorem FX.rf {fs ss : List Nat} {h : Hp} : FX fs ss h h := ⟨SR.rf, fun _ _ _ => rfl, fun _ _ _ _ => rfl⟩
theorem FX.trans {fs ss : List Nat} {a b c : Hp} (x : FX fs ss a b) (y : FX fs ss b c) : FX fs ss a c := ⟨x.1.trans y.1, fun f hf i => (y.2.1 f hf i).trans (x.2.1 f hf i), fun s hs i j => (y.2.2 s hs i j).trans (x.2.2 s hs i j)⟩
theorem FX.sfi {fs ss : List Nat} {h : Hp} {k i : Nat} {v : Int32} (hk : k ∈ fs) : FX fs ss h (sFI h k i v) := ⟨⟨rfl, rfl⟩, fun f hf i' => by rw [fi_fi, if_neg (fun q => hf (by rw [q.1]; exact hk))], fun _ _ _ _ => rfl⟩
theorem FX.sai {fs ss : List Nat} {h : Hp} {s i j : Nat} {v : Int32} (hs : s ∈ ss) : FX fs ss h (sAI h s i j v) := ⟨⟨rfl, rfl⟩, fun _ _ _ => rfl, fun s' hs' i' j' => by rw [ai_ai, if_neg (fun q => hs' (by rw [q.1]; exact hs))]⟩
theorem FX.fillx {fs ss : List Nat} {h : Hp} {s i : Nat} {v : Int32} (hs : s ∈ ss) : FX fs ss h (H_fill h s i v) := ⟨⟨rfl, rfl⟩, fun _ _ _ => rfl, fun s' hs' i' j' => by rw [ai_fill, if_neg (fun q => hs' (by rw [q.1]; exact hs))]⟩
theorem FX.mono {fs ss fs' ss' : List Nat} {h h' : Hp} (x : FX fs ss h h') (h1 : ∀ f, f ∈ fs → f ∈ fs') (h2 : ∀ s, s ∈ ss → s ∈ ss') : FX fs' ss' h h' := ⟨x.1, fun f hf => x.2.1 f (fun q => hf (h1 f q)), fun s hs => x.2.2 s (fun q => hs (h2 s q))⟩
set_option maxHeartbeats 4000000 in
theorem RC.st {h h' : Hp} (H : RC h) (q : FX [103, 905, 1030, 1043] [65] h h') (hn : xFI h' 905 0 = xFI h' 1030 0) (hs : ∀ b, b < xLS h 12 → xFI h' 103 b = xAI h' 65 0 b) : RC h' := by
  obtain ⟨⟨r1, r2⟩, hF, hA⟩ := q
  have f403 : ∀ i, xFI h' 403 i = xFI h 403 i := hF 403 (by decide)
  have f1000 : ∀ i, xFI h' 1000 i = xFI h 1000 i := hF 1000 (by decide)
  have f1003 : ∀ i, xFI h' 1003 i = xFI h 1003 i := hF 1003 (by decide)
  have f810 : ∀ i, xFI h' 810 i = xFI h 810 i := hF 810 (by decide)
  have f800 : ∀ i, xFI h' 800 i = xFI h 800 i := hF 800 (by decide)
  have f801 : ∀ i, xFI h' 801 i = xFI h 801 i := hF 801 (by decide)
  have f802 : ∀ i, xFI h' 802 i = xFI h 802 i := hF 802 (by decide)
  have f803 : ∀ i, xFI h' 803 i = xFI h 803 i := hF 803 (by decide)
  have f811 : ∀ i, xFI h' 811 i = xFI h 811 i := hF 811 (by decide)
  have f1031 : ∀ i, xFI h' 1031 i = xFI h 1031 i := hF 1031 (by decide)
  have f101 : ∀ i, xFI h' 101 i = xFI h 101 i := hF 101 (by decide)
  have f102 : ∀ i, xFI h' 102 i = xFI h 102 i := hF 102 (by decide)
  have f302 : ∀ i, xFI h' 302 i = xFI h 302 i := hF 302 (by decide)
  have f300 : ∀ i, xFI h' 300 i = xFI h 300 i := hF 300 (by decide)
  have f304 : ∀ i, xFI h' 304 i = xFI h 304 i := hF 304 (by decide)
  have f303 : ∀ i, xFI h' 303 i = xFI h 303 i := hF 303 (by decide)
  have f501 : ∀ i, xFI h' 501 i = xFI h 501 i := hF 501 (by decide)
  have f502 : ∀ i, xFI h' 502 i = xFI h 502 i := hF 502 (by decide)
  have f503 : ∀ i, xFI h' 503 i = xFI h 503 i := hF 503 (by decide)
  have f505 : ∀ i, xFI h' 505 i = xFI h 505 i := hF 505 (by decide)
  have a28 : ∀ i j, xAI h' 28 i j = xAI h 28 i j := hA 28 (by decide)
  have a47 : ∀ i j, xAI h' 47 i j = xAI h 47 i j := hA 47 (by decide)
  have a30 : ∀ i j, xAI h' 30 i j = xAI h 30 i j := hA 30 (by decide)
  have a49 : ∀ i j, xAI h' 49 i j = xAI h 49 i j := hA 49 (by decide)
  have a29 : ∀ i j, xAI h' 29 i j = xAI h 29 i j := hA 29 (by decide)
  have a48 : ∀ i j, xAI h' 48 i j = xAI h 48 i j := hA 48 (by decide)
  have a31 : ∀ i j, xAI h' 31 i j = xAI h 31 i j := hA 31 (by decide)
  have a32 : ∀ i j, xAI h' 32 i j = xAI h 32 i j := hA 32 (by decide)
  have a45 : ∀ i j, xAI h' 45 i j = xAI h 45 i j := hA 45 (by decide)
  have a50 : ∀ i j, xAI h' 50 i j = xAI h 50 i j := hA 50 (by decide)
  have a51 : ∀ i j, xAI h' 51 i j = xAI h 51 i j := hA 51 (by decide)
  have a33 : ∀ i j, xAI h' 33 i j = xAI h 33 i j := hA 33 (by decide)
  have a53 : ∀ i j, xAI h' 53 i j = xAI h 53 i j := hA 53 (by decide)
  have a42 : ∀ i j, xAI h' 42 i j = xAI h 42 i j := hA 42 (by decide)
  have a43 : ∀ i j, xAI h' 43 i j = xAI h 43 i j := hA 43 (by decide)
  have a44 : ∀ i j, xAI h' 44 i j = xAI h 44 i j := hA 44 (by decide)
  have a46 : ∀ i j, xAI h' 46 i j = xAI h 46 i j := hA 46 (by decide)
  have a52 : ∀ i j, xAI h' 52 i j = xAI h 52 i j := hA 52 (by decide)
  have a22 : ∀ i j, xAI h' 22 i j = xAI h 22 i j := hA 22 (by decide)
  have a40 : ∀ i j, xAI h' 40 i j = xAI h 40 i j := hA 40 (by decide)
  have a23 : ∀ i j, xAI h' 23 i j = xAI h 23 i j := hA 23 (by decide)
  have a41 : ∀ i j, xAI h' 41 i j = xAI h 41 i j := hA 41 (by decide)
  have a24 : ∀ i j, xAI h' 24 i j = xAI h 24 i j := hA 24 (by decide)
  have a25 : ∀ i j, xAI h' 25 i j = xAI h 25 i j := hA 25 (by decide)
  have a26 : ∀ i j, xAI h' 26 i j = xAI h 26 i j := hA 26 (by decide)
  have a54 : ∀ i j, xAI h' 54 i j = xAI h 54 i j := hA 54 (by decide)
  have a55 : ∀ i j, xAI h' 55 i j = xAI h 55 i j := hA 55 (by decide)
  have a56 : ∀ i j, xAI h' 56 i j = xAI h 56 i j := hA 56 (by decide)
  have a66 : ∀ i j, xAI h' 66 i j = xAI h 66 i j := hA 66 (by decide)
  have a67 : ∀ i j, xAI h' 67 i j = xAI h 67 i j := hA 67 (by decide)
  have a68 : ∀ i j, xAI h' 68 i j = xAI h 68 i j := hA 68 (by decide)
  have a69 : ∀ i j, xAI h' 69 i j = xAI h 69 i j := hA 69 (by decide)
  have a70 : ∀ i j, xAI h' 70 i j = xAI h 70 i j := hA 70 (by decide)
  have a71 : ∀ i j, xAI h' 71 i j = xAI h 71 i j := hA 71 (by decide)
  have a72 : ∀ i j, xAI h' 72 i j = xAI h 72 i j := hA 72 (by decide)
  have a73 : ∀ i j, xAI h' 73 i j = xAI h 73 i j := hA 73 (by decide)
  have a74 : ∀ i j, xAI h' 74 i j = xAI h 74 i j := hA 74 (by decide)
  have a75 : ∀ i j, xAI h' 75 i j = xAI h 75 i j := hA 75 (by decide)
  have a15 : ∀ i j, xAI h' 15 i j = xAI h 15 i j := hA 15 (by decide)
  have eR : xFR h' = xFR h := r1
  have eL : xLS h' = xLS h := congrArg (fun x => x.2.2.1) r2
  obtain ⟨h0, hwk, h3, htn, hpr, hno, hb, hbr, hc⟩ := H
  have g0 : (∃ n, RStop h' n ∧ ∀ t, t < xLS h' 11 → TR h' n t) := by
    simp only [RStop, TR, TRow, TDay, TNot, F_X9_isRun, eL, f403, f1000, f1003, f810, f800, f801, f802, f803, f811, f1031, f101, f102, f302, f300, f304, f303, f501, f502, f503, f505, a28, a47, a30, a49, a29, a48, a31, a32, a45, a50, a51, a33, a53, a42, a43, a44, a46, a52, a22, a40, a23, a41, a24, a25, a26, a54, a55, a56, a66, a67, a68, a69, a70, a71, a72, a73, a74, a75, a15]
    exact h0
  have g1 : RWalk h' := by
    simp only [RWalk, a23, a41]
    exact hwk
  have g2 : xFI h' 1003 0 = nI (xLS h' 11) := by rw [eL, f1003]; exact h3
  have g3 : ∀ t, xLS h' 11 ≤ t → t < 20 → TN h' t := by
    simp only [TN, eL, a50, a51, a52]
    exact htn
  have g4 : PR h' := by
    simp only [PR, a24, a25, a26, a54, a55, a56]
    exact hpr
  have g5 : xFI h' 1031 0 = nI (xLS h' 12) := by rw [eL, f1031]; exact hb
  have g6 : ∀ b, b < xLS h' 12 → BR h' b := by
    intro b hb'
    rw [eL] at hb'
    refine ⟨hs b hb', ?_⟩
    have hz := (hbr b hb').2
    simp only [BR, BRide, rls, bj, tr, eR, f403, f1000, f1003, f810, f800, f801, f802, f803, f811, f1031, f101, f102, f302, f300, f304, f303, f501, f502, f503, f505, a28, a47, a30, a49, a29, a48, a31, a32, a45, a50, a51, a33, a53, a42, a43, a44, a46, a52, a22, a40, a23, a41, a24, a25, a26, a54, a55, a56, a66, a67, a68, a69, a70, a71, a72, a73, a74, a75, a15] at hz ⊢
    exact hz
  refine ⟨g0, g1, g2, g3, g4, hn, g5, g6, ?_⟩
  rw [a15, a15, a15]
  exact hc
theorem FX.al {fs ss : List Nat} {h h' : Hp} (x : FX fs ss h h') (v : Int64) : FX fs ss (sAL h v) (sAL h' v) := ⟨⟨x.1.1, by
  show (h'.2.2.2.1, h'.2.2.2.2.1, h'.2.2.2.2.2.1, up1 h'.2.2.2.2.2.2.1 0 v, h'.2.2.2.2.2.2.2) = (h.2.2.2.1, h.2.2.2.2.1, h.2.2.2.2.2.1, up1 h.2.2.2.2.2.2.1 0 v, h.2.2.2.2.2.2.2)
  rw [x.1.2]⟩, x.2.1, x.2.2⟩
theorem RC.fqx {h h' : Hp} (H : RC h) (q : FQ h h') : RC h' := H.fq q
/-- bookings that time out, both ways -/
theorem pass_eq {h : Hp} (W : CW h) (R : RC h) (x nw : Int32) : ∀ (m i f1 f2 : Nat) (hc hm : Hp) (dr : Int32), i + m = xLS h 12 → m < f1 → m < f2 → FX [103, 905] [] h hc → xFI hc 905 0 = nw → (∀ b, b < xLS h 12 → xAI hm 65 0 b = xFI hc 103 b) → (∀ b, b < xLS h 12 → xAI hm 68 0 b = xFI h 102 b) → xFI hm 1031 0 = nI (xLS h 12) → xFI hm 1030 0 = nw →
    ∃ (v : Int32) (hc' hm' : Hp), L_X8_pass_22 h x f1 hc dr i = (.inl (some (.inl (.int v))), hc') ∧ L_X9_pass_31 hm x f2 hm dr i = L_X9_pass_31 hm x f2 hm dr i ∧ FX [103] [] hc hc' ∧ FX [] [65] hm hm' ∧ (∀ H : Hp, L_X9_pass_31 H x f2 hm dr i = (v, hm')) ∧ (∀ b, b < xLS h 12 → xAI hm' 65 0 b = xFI hc' 103 b) := by
  have h30 := W.b30
  intro m
  induction m with
  | zero =>
    intro i f1 f2 hc hm dr hi h1 h2 hF hn hst hmd hb1 hnw
    obtain ⟨f1, rfl⟩ : ∃ g, f1 = g + 1 := ⟨f1 - 1, by omega⟩
    obtain ⟨f2, rfl⟩ : ∃ g, f2 = g + 1 := ⟨f2 - 1, by omega⟩
    have eL : xLS hc = xLS h := congrArg (fun x => x.2.2.1) hF.1.2
    refine ⟨dr, hc, hm, ?_, rfl, FX.rf, FX.rf, fun H => ?_, hst⟩
    · rw [L_X8_pass_22_s]
      unfold B_X8_pass_22
      rw [eL, if_pos (nI_le (by omega) (by omega))]
    · rw [L_X9_pass_31_s]
      unfold B_X9_pass_31
      rw [hb1, if_pos (nI_le (by omega) (by omega))]
  | succ m ih =>
    intro i f1 f2 hc hm dr hi h1 h2 hF hn hst hmd hb1 hnw
    obtain ⟨f1, rfl⟩ : ∃ g, f1 = g + 1 := ⟨f1 - 1, by omega⟩
    obtain ⟨f2, rfl⟩ : ∃ g, f2 = g + 1 := ⟨f2 - 1, by omega⟩
    have eL : xLS hc = xLS h := congrArg (fun x => x.2.2.1) hF.1.2
    have hn' : ¬ nI (xLS h 12) ≤ nI i := fun q => by have := (nI_leI (by omega) (by omega)).mp q; omega
    have e102 : xFI hc 102 i = xFI h 102 i := hF.2.1 102 (by decide) i
    have stay := ih (i + 1) f1 f2 hc hm dr (by omega) (by omega) (by omega) hF hn hst hmd hb1 hnw
    have more := ih (i + 1) f1 f2 (sFI hc 103 i 2) (sAI hm 65 0 i 2) (dr + 1) (by omega) (by omega) (by omega) (hF.trans (FX.sfi (by decide))) hn (fun b hb => by
      show (if 65 = 65 ∧ 0 = 0 ∧ b = i then 2 else xAI hm 65 0 b) = (if 103 = 103 ∧ b = i then 2 else xFI hc 103 b)
      by_cases q : b = i
      · rw [if_pos ⟨rfl, rfl, q⟩, if_pos ⟨rfl, q⟩]
      · rw [if_neg (fun z => q z.2.2), if_neg (fun z => q z.2)]
        exact hst b hb) hmd hb1 hnw
    have C : L_X8_pass_22 h x (f1 + 1) hc dr i = (if xFI hc 103 i = 0 then (if nw - xFI h 102 i ≤ 30 then L_X8_pass_22 h x f1 hc dr (i + 1) else L_X8_pass_22 h x f1 (sFI hc 103 i 2) (dr + 1) (i + 1)) else L_X8_pass_22 h x f1 hc dr (i + 1)) := by
      rw [L_X8_pass_22_s]
      unfold B_X8_pass_22
      rw [eL, if_neg hn', hn, e102]
    have M : ∀ H : Hp, L_X9_pass_31 H x (f2 + 1) hm dr i = (if xFI hc 103 i = 0 then (if nw - xFI h 102 i ≤ 30 then L_X9_pass_31 H x f2 hm dr (i + 1) else L_X9_pass_31 H x f2 (sAI hm 65 0 i 2) (dr + 1) (i + 1)) else L_X9_pass_31 H x f2 hm dr (i + 1)) := by
      intro H
      rw [L_X9_pass_31_s]
      unfold B_X9_pass_31
      rw [hb1, if_neg hn', nI_clamp (by omega), hst i (by omega), hnw, hmd i (by omega)]
    rw [C]
    by_cases q0 : xFI hc 103 i = 0
    · by_cases q1 : nw - xFI h 102 i ≤ 30
      · obtain ⟨v, hc', hm', a1, -, a3, a4, a5, a6⟩ := stay
        exact ⟨v, hc', hm', by rw [if_pos q0, if_pos q1]; exact a1, rfl, a3, a4, fun H => by rw [M H, if_pos q0, if_pos q1]; exact a5 H, a6⟩
      · obtain ⟨v, hc', hm', a1, -, a3, a4, a5, a6⟩ := more
        exact ⟨v, hc', hm', by rw [if_pos q0, if_neg q1]; exact a1, rfl, (FX.sfi (by decide)).trans a3, (FX.sai (by decide)).trans a4, fun H => by rw [M H, if_pos q0, if_neg q1]; exact a5 H, a6⟩
    · obtain ⟨v, hc', hm', a1, -, a3, a4, a5, a6⟩ := stay
      exact ⟨v, hc', hm', by rw [if_neg q0]; exact a1, rfl, a3, a4, fun H => by rw [M H, if_neg q0]; exact a5 H, a6⟩
theorem ag_pass {S : Nat → Int32} {n : Nat} {h : Hp} (I : Inv S n h) (x : Int32) : AG S n [cy_e1] (F_X8_pass h x).1 (A1_pass h x) (F_X9_pass (A1_pass h x) x).2 (xAL (F_X9_pass (A1_pass h x) x).2 0 = (F_X9_pass (A1_pass h x) x).1.toInt64) := by
  have h30 := I.W.b30
  by_cases p : okR x 1 1440
  · have hno : xFI h 905 0 = xFI h 1030 0 := I.R.2.2.2.2.2.1
    have hb1 : xFI h 1031 0 = nI (xLS h 12) := I.R.2.2.2.2.2.2.1
    have hbr : ∀ b, b < xLS h 12 → BR h b := I.R.2.2.2.2.2.2.2.1
    have F0 : FX [103, 905] [] h (sFI h 905 0 (xFI h 905 0 + x)) := FX.sfi (by decide)
    have base := fun hm (k1 : ∀ b, b < xLS h 12 → xAI hm 65 0 b = xFI h 103 b) k2 k3 k4 => pass_eq I.W I.R x (xFI h 905 0 + x) (xLS h 12) 0 (2147483648 - 0 + 1) (2147483648 - 0 + 1) (sFI h 905 0 (xFI h 905 0 + x)) hm 0 (by omega) (by omega) (by omega) F0 rfl k1 k2 k3 k4
    obtain ⟨v, hc', hm', a1, -, a3, -, -, -⟩ := base (sFI h 1030 0 (xFI h 905 0 + x)) (fun b hb => (hbr b hb).1.symm) (fun b hb => (hbr b hb).2.2.1.symm) hb1 rfl
    have e8 : F_X8_pass h x = (.inl (some (.inl (.int v))), hc') := by
      unfold F_X8_pass
      rw [if_pos p]
      exact a1
    have eA : A1_pass h x = sAL hc' v.toInt64 := by unfold A1_pass; rw [e8]; rfl
    have F1 : FX [103, 905] [] h hc' := F0.trans (a3.mono (fun f hf => by simp only [List.mem_singleton] at hf; subst hf; decide) (fun s hs => hs))
    have m65 : ∀ b, xAI hc' 65 0 b = xAI h 65 0 b := fun b => F1.2.2 65 (by decide) 0 b
    have m68 : ∀ b, xAI hc' 68 0 b = xAI h 68 0 b := fun b => F1.2.2 68 (by decide) 0 b
    have m1030 : xFI hc' 1030 0 = xFI h 1030 0 := F1.2.1 1030 (by decide) 0
    have m1031 : xFI hc' 1031 0 = xFI h 1031 0 := F1.2.1 1031 (by decide) 0
    obtain ⟨v', hc'', hm'', c1, -, c3, c4, c5, c6⟩ := base (sFI (sFI (sAL hc' v.toInt64) 1043 0 0) 1030 0 (xFI hc' 1030 0 + x)) (fun b hb => (m65 b).trans (hbr b hb).1.symm) (fun b hb => (m68 b).trans (hbr b hb).2.2.1.symm) (m1031.trans hb1) (by
      show xFI hc' 1030 0 + x = xFI h 905 0 + x
      rw [m1030, hno])
    rw [a1] at c1
    have ev : v = v' := by
      have := congrArg Prod.fst c1
      simpa using this
    have eh : hc' = hc'' := congrArg Prod.snd c1
    subst ev
    subst eh
    have e9 : F_X9_pass (sAL hc' v.toInt64) x = (v, hm'') := by
      unfold F_X9_pass
      rw [if_pos p]
      exact c5 _
    have n905 : xFI hc' 905 0 = xFI h 905 0 + x := (a3.2.1 905 (by decide) 0)
    rw [eA, e8, e9]
    have F2 : FX [103, 905, 1030, 1043] [65] (sAL h v.toInt64) hm'' := by
      refine ((F1.mono (fs' := [103, 905, 1030, 1043]) (ss' := [65]) (fun f hf => ?_) (fun s hs => by cases hs)).al v.toInt64).trans (FX.trans (b := sFI (sFI (sAL hc' v.toInt64) 1043 0 0) 1030 0 (xFI hc' 1030 0 + x)) ?_ (c4.mono (fun f hf => by cases hf) (fun s hs => hs)))
      · simp only [List.mem_cons, List.not_mem_nil, or_false] at hf ⊢
        omega
      · exact FX.trans (b := sFI (sAL hc' v.toInt64) 1043 0 0) (FX.sfi (by decide)) (FX.sfi (by decide))
    have IA : Inv S n (sAL h v.toInt64) := I.al
    have hmw : MW hc' := I.MW.sr F1.1
    refine ⟨⟨hmw, ?_, ?_⟩, fun m => ?_, ?_, fun _ => ?_⟩
    · refine ⟨fun s b hs j => ?_, fun f b hf => ?_⟩
      · show vp_in (xAI hc' s 0 j) b
        rw [F1.2.2 s (by intro z; cases z) 0 j]
        exact I.D.1 s b hs j
      · show vp_in (xFI hc' f 0) b
        rw [F1.2.1 f (by
          intro z
          have : ∀ q ∈ dm_f, q.1 ∉ [103, 905] := by decide
          exact this _ hf z) 0]
        exact I.D.2 f b hf
    · exact ⟨fun j => (F1.2.2 16 (by decide) 0 j).trans (I.S.1 j), by
        have eL : xLS hc' = xLS h := congrArg (fun x => x.2.2.1) F1.1.2
        show xLS hc' 16 = n
        rw [eL]
        exact I.S.2⟩
    · exact ⟨IA.W.sr F2.1, IA.C.sr F2.1, IA.MW.sr F2.1, m.2, ⟨fun j => (F2.2.2 16 (by decide) 0 j).trans (I.S.1 j), by
        have eL : xLS hm'' = xLS (sAL h v.toInt64) := congrArg (fun x => x.2.2.1) F2.1.2
        rw [eL]
        exact I.S.2⟩, IA.R.st F2 (by
          rw [c4.2.1 905 (by decide) 0, c4.2.1 1030 (by decide) 0]
          show xFI hc' 905 0 = xFI hc' 1030 0 + x
          rw [n905, m1030, hno]) (fun b hb => by
          rw [c6 b hb, c4.2.1 103 (by decide) b]
          rfl)⟩
    · rw [c4.2.1 1043 (by decide) 0]
      rfl
    · have e : xAL hm'' = xAL (sAL hc' v.toInt64) := congrArg (fun x => x.2.2.2.1) c4.1.2
      rw [e]
      rfl
  · have e8 : F_X8_pass h x = (.inr cy_e1, h) := by unfold F_X8_pass; rw [if_neg p]
    have eA : A1_pass h x = h := by unfold A1_pass; rw [e8]; rfl
    have e9 : F_X9_pass h x = (0, sFI h 1043 0 1) := by unfold F_X9_pass; rw [if_neg p]
    rw [eA, e8, e9]
    exact ag_err I (k := 1) fqe1 rfl (by decide +kernel) (by decide)
