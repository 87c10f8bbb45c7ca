/-! ===== own: reading over writing ===== -/
theorem fi_fi (h : Hp) (k i : Nat) (v : Int32) (k' i' : Nat) : xFI (sFI h k i v) k' i' = if k' = k ∧ i' = i then v else xFI h k' i' := rfl
theorem fi_ai (h : Hp) (s i j : Nat) (v : Int32) (k' i' : Nat) : xFI (sAI h s i j v) k' i' = xFI h k' i' := rfl
theorem fi_put (h : Hp) (s i : Nat) (x v : Int32) (k' i' : Nat) : xFI (H_put h s i x v) k' i' = xFI h k' i' := rfl
theorem fi_fill (h : Hp) (s i : Nat) (v : Int32) (k' i' : Nat) : xFI (H_fill h s i v) k' i' = xFI h k' i' := rfl
theorem fi_al (h : Hp) (v : Int64) (k' i' : Nat) : xFI (sAL h v) k' i' = xFI h k' i' := rfl
theorem fi_ad (h : Hp) (v : UInt64) (k' i' : Nat) : xFI (sAD h v) k' i' = xFI h k' i' := rfl
theorem ai_fi (h : Hp) (k i : Nat) (v : Int32) (s i' j : Nat) : xAI (sFI h k i v) s i' j = xAI h s i' j := rfl
theorem ai_ai (h : Hp) (s i j : Nat) (v : Int32) (s' i' j' : Nat) : xAI (sAI h s i j v) s' i' j' = if s' = s ∧ i' = i ∧ j' = j then v else xAI h s' i' j' := rfl
theorem ai_fill (h : Hp) (s i : Nat) (v : Int32) (s' i' j' : Nat) : xAI (H_fill h s i v) s' i' j' = if s' = s ∧ i' = i ∧ j' < cy_ln h s then v else xAI h s' i' j' := rfl
theorem ai_al (h : Hp) (v : Int64) (s i' j : Nat) : xAI (sAL h v) s i' j = xAI h s i' j := rfl
theorem ai_ad (h : Hp) (v : UInt64) (s i' j : Nat) : xAI (sAD h v) s i' j = xAI h s i' j := rfl
theorem al_fi (h : Hp) (k i : Nat) (v : Int32) : xAL (sFI h k i v) 0 = xAL h 0 := rfl
theorem al_ai (h : Hp) (s i j : Nat) (v : Int32) : xAL (sAI h s i j v) 0 = xAL h 0 := rfl
theorem al_al (h : Hp) (v : Int64) : xAL (sAL h v) 0 = v := rfl
theorem ln_at (h : Hp) {s : Nat} (hs : s ≠ 16) : cy_ln h s = cy_lens.getD s 0 := by unfold cy_ln; rw [if_neg hs]
theorem at_in (h : Hp) {s i j n : Nat} (hs : s ≠ 16) (hn : cy_lens.getD s 0 = n) (hj : j < n) (hm : n ≤ 3584) : F_at h s i (nI j) = xAI h s i j := by
  unfold F_at
  rw [if_neg (nI_pos (by omega)), ln_at h hs, hn, if_neg (fun q => by have := (nI_leI (by omega) (by omega)).mp q; omega), nI_clamp (by omega)]
theorem put_in (h : Hp) {s i j n : Nat} {v : Int32} (hs : s ≠ 16) (hn : cy_lens.getD s 0 = n) (hj : j < n) (hm : n ≤ 3584) : H_put h s i (nI j) v = sAI h s i j v := by
  unfold H_put A_put
  rw [if_neg (nI_pos (by omega)), ln_at h hs, hn, if_neg (fun q => by have := (nI_leI (by omega) (by omega)).mp q; omega), nI_clamp (by omega)]
  rfl
theorem okR_of {x : Int32} {a n : Nat} (h1 : a < 2147483648) (hn : n < 2147483648) (p : okR x (nI a) (nI n)) : ∃ k, x = nI k ∧ a ≤ k ∧ k ≤ n := by
  have h0 : ¬ x < 0 := fun q => p.1 (Int32.lt_of_lt_of_le q (Int32.not_lt.mp (nI_pos h1)))
  obtain ⟨j, hj, rfl⟩ := nI_of h0
  exact ⟨j, rfl, Nat.le_of_not_lt fun q => p.1 ((nI_ltI hj h1).mpr q), (nI_leI hj hn).mp p.2⟩
theorem okR_lt {x : Int32} {n : Nat} (hn : n < 2147483648) (hx : x.toInt < 2147483648) : okR x 0 (nI n - 1) ↔ ∃ k, k < n ∧ x = nI k := by
  constructor
  · intro p
    obtain ⟨j, hj, rfl⟩ := nI_of p.1
    refine ⟨j, ?_, rfl⟩
    have h2 := p.2
    rcases Nat.eq_zero_or_pos n with rfl | q
    · rw [Int32.le_iff_toInt_le, nI_toInt hj] at h2
      have : (nI 0 - 1 : Int32).toInt = -1 := by decide
      omega
    · obtain ⟨k, rfl⟩ : ∃ k, n = k + 1 := ⟨n - 1, by omega⟩
      rw [nI_pred] at h2
      have := (nI_leI hj (by omega)).mp h2
      omega
  · rintro ⟨k, hk, rfl⟩
    obtain ⟨m, rfl⟩ : ∃ m, n = m + 1 := ⟨n - 1, by omega⟩
    rw [nI_pred]
    exact ⟨nI_pos (by omega), (nI_leI (by omega) (by omega)).mpr (by omega)⟩
theorem nI_inj {a b : Nat} (ha : a < 2147483648) (hb : b < 2147483648) (h : nI a = nI b) : a = b := by
  have := congrArg Int32.toInt h
  rw [nI_toInt ha, nI_toInt hb] at this
  omega
/-- the same but for what no agreement reads -/
def FQ (h h' : Hp) : Prop := SR h h' ∧ (∀ f, f ∉ scF → ∀ i, xFI h' f i = xFI h f i) ∧ ∀ s, s ∉ scA → ∀ i j, xAI h' s i j = xAI h s i j
theorem FQ.rf {h : Hp} : FQ h h := ⟨SR.rf, fun _ _ _ => rfl, fun _ _ _ _ => rfl⟩
theorem FQ.trans {a b c : Hp} (x : FQ a b) (y : FQ b c) : FQ a c := ⟨x.1.trans y.1, fun f hf i => (y.2.1 f hf i).trans (x.2.1 f hf i), fun s hs i j => (y.2.2 s hs i j).trans (x.2.2 s hs i j)⟩
theorem FQ.sfi {h : Hp} {k i : Nat} {v : Int32} (hk : k ∈ scF) : FQ h (sFI h k i v) := ⟨⟨rfl, rfl⟩, fun f hf i' => by rw [fi_fi, if_neg (fun q => hf (by rw [q.1]; exact hk))], fun _ _ _ _ => rfl⟩
theorem FQ.sai {h : Hp} {s i j : Nat} {v : Int32} (hs : s ∈ scA) : FQ h (sAI h s i j v) := ⟨⟨rfl, rfl⟩, fun _ _ _ => rfl, fun s' hs' i' j' => by rw [ai_ai, if_neg (fun q => hs' (by rw [q.1]; exact hs))]⟩
theorem FQ.put {h : Hp} {s i : Nat} {x v : Int32} (hs : s ∈ scA) : FQ h (H_put h s i x v) := ⟨⟨rfl, rfl⟩, fun _ _ _ => rfl, fun s' hs' i' j' => by
  show A_put h s i x v s' i' j' = h.2.2.1 s' i' j'
  unfold A_put
  split
  · rfl
  · split
    · rfl
    · unfold up3
      rw [if_neg (fun q => hs' (by rw [q.1]; exact hs))]⟩
theorem FQ.fill {h : Hp} {s i : Nat} {v : Int32} (hs : s ∈ scA) : FQ h (H_fill h s i v) := ⟨⟨rfl, rfl⟩, fun _ _ _ => rfl, fun s' hs' i' j' => by rw [ai_fill, if_neg (fun q => hs' (by rw [q.1]; exact hs))]⟩
set_option maxHeartbeats 4000000 in
theorem RC.fq {h h' : Hp} (H : RC h) (q : FQ h h') : RC h' := by
  obtain ⟨⟨r1, r2⟩, hF, hA⟩ := q
  have f403 : ∀ i, xFI h' 403 i = xFI h 403 i := hF 403 (by decide)
  have f1000 : ∀ i, xFI h' 1000 i = xFI h 1000 i := hF 1000 (by decide)
  have f1003 : ∀ i, xFI h' 1003 i = xFI h 1003 i := hF 1003 (by decide)
  have f810 : ∀ i, xFI h' 810 i = xFI h 810 i := hF 810 (by decide)
  have f800 : ∀ i, xFI h' 800 i = xFI h 800 i := hF 800 (by decide)
  have f801 : ∀ i, xFI h' 801 i = xFI h 801 i := hF 801 (by decide)
  have f802 : ∀ i, xFI h' 802 i = xFI h 802 i := hF 802 (by decide)
  have f803 : ∀ i, xFI h' 803 i = xFI h 803 i := hF 803 (by decide)
  have f811 : ∀ i, xFI h' 811 i = xFI h 811 i := hF 811 (by decide)
  have f905 : ∀ i, xFI h' 905 i = xFI h 905 i := hF 905 (by decide)
  have f1030 : ∀ i, xFI h' 1030 i = xFI h 1030 i := hF 1030 (by decide)
  have f1031 : ∀ i, xFI h' 1031 i = xFI h 1031 i := hF 1031 (by decide)
  have f103 : ∀ i, xFI h' 103 i = xFI h 103 i := hF 103 (by decide)
  have f101 : ∀ i, xFI h' 101 i = xFI h 101 i := hF 101 (by decide)
  have f102 : ∀ i, xFI h' 102 i = xFI h 102 i := hF 102 (by decide)
  have f302 : ∀ i, xFI h' 302 i = xFI h 302 i := hF 302 (by decide)
  have f300 : ∀ i, xFI h' 300 i = xFI h 300 i := hF 300 (by decide)
  have f304 : ∀ i, xFI h' 304 i = xFI h 304 i := hF 304 (by decide)
  have f303 : ∀ i, xFI h' 303 i = xFI h 303 i := hF 303 (by decide)
  have f501 : ∀ i, xFI h' 501 i = xFI h 501 i := hF 501 (by decide)
  have f502 : ∀ i, xFI h' 502 i = xFI h 502 i := hF 502 (by decide)
  have f503 : ∀ i, xFI h' 503 i = xFI h 503 i := hF 503 (by decide)
  have f505 : ∀ i, xFI h' 505 i = xFI h 505 i := hF 505 (by decide)
  have a28 : ∀ i j, xAI h' 28 i j = xAI h 28 i j := hA 28 (by decide)
  have a47 : ∀ i j, xAI h' 47 i j = xAI h 47 i j := hA 47 (by decide)
  have a30 : ∀ i j, xAI h' 30 i j = xAI h 30 i j := hA 30 (by decide)
  have a49 : ∀ i j, xAI h' 49 i j = xAI h 49 i j := hA 49 (by decide)
  have a29 : ∀ i j, xAI h' 29 i j = xAI h 29 i j := hA 29 (by decide)
  have a48 : ∀ i j, xAI h' 48 i j = xAI h 48 i j := hA 48 (by decide)
  have a31 : ∀ i j, xAI h' 31 i j = xAI h 31 i j := hA 31 (by decide)
  have a32 : ∀ i j, xAI h' 32 i j = xAI h 32 i j := hA 32 (by decide)
  have a45 : ∀ i j, xAI h' 45 i j = xAI h 45 i j := hA 45 (by decide)
  have a50 : ∀ i j, xAI h' 50 i j = xAI h 50 i j := hA 50 (by decide)
  have a51 : ∀ i j, xAI h' 51 i j = xAI h 51 i j := hA 51 (by decide)
  have a33 : ∀ i j, xAI h' 33 i j = xAI h 33 i j := hA 33 (by decide)
  have a53 : ∀ i j, xAI h' 53 i j = xAI h 53 i j := hA 53 (by decide)
  have a42 : ∀ i j, xAI h' 42 i j = xAI h 42 i j := hA 42 (by decide)
  have a43 : ∀ i j, xAI h' 43 i j = xAI h 43 i j := hA 43 (by decide)
  have a44 : ∀ i j, xAI h' 44 i j = xAI h 44 i j := hA 44 (by decide)
  have a46 : ∀ i j, xAI h' 46 i j = xAI h 46 i j := hA 46 (by decide)
  have a52 : ∀ i j, xAI h' 52 i j = xAI h 52 i j := hA 52 (by decide)
  have a22 : ∀ i j, xAI h' 22 i j = xAI h 22 i j := hA 22 (by decide)
  have a40 : ∀ i j, xAI h' 40 i j = xAI h 40 i j := hA 40 (by decide)
  have a23 : ∀ i j, xAI h' 23 i j = xAI h 23 i j := hA 23 (by decide)
  have a41 : ∀ i j, xAI h' 41 i j = xAI h 41 i j := hA 41 (by decide)
  have a24 : ∀ i j, xAI h' 24 i j = xAI h 24 i j := hA 24 (by decide)
  have a25 : ∀ i j, xAI h' 25 i j = xAI h 25 i j := hA 25 (by decide)
  have a26 : ∀ i j, xAI h' 26 i j = xAI h 26 i j := hA 26 (by decide)
  have a54 : ∀ i j, xAI h' 54 i j = xAI h 54 i j := hA 54 (by decide)
  have a55 : ∀ i j, xAI h' 55 i j = xAI h 55 i j := hA 55 (by decide)
  have a56 : ∀ i j, xAI h' 56 i j = xAI h 56 i j := hA 56 (by decide)
  have a65 : ∀ i j, xAI h' 65 i j = xAI h 65 i j := hA 65 (by decide)
  have a66 : ∀ i j, xAI h' 66 i j = xAI h 66 i j := hA 66 (by decide)
  have a67 : ∀ i j, xAI h' 67 i j = xAI h 67 i j := hA 67 (by decide)
  have a68 : ∀ i j, xAI h' 68 i j = xAI h 68 i j := hA 68 (by decide)
  have a69 : ∀ i j, xAI h' 69 i j = xAI h 69 i j := hA 69 (by decide)
  have a70 : ∀ i j, xAI h' 70 i j = xAI h 70 i j := hA 70 (by decide)
  have a71 : ∀ i j, xAI h' 71 i j = xAI h 71 i j := hA 71 (by decide)
  have a72 : ∀ i j, xAI h' 72 i j = xAI h 72 i j := hA 72 (by decide)
  have a73 : ∀ i j, xAI h' 73 i j = xAI h 73 i j := hA 73 (by decide)
  have a74 : ∀ i j, xAI h' 74 i j = xAI h 74 i j := hA 74 (by decide)
  have a75 : ∀ i j, xAI h' 75 i j = xAI h 75 i j := hA 75 (by decide)
  have a15 : ∀ i j, xAI h' 15 i j = xAI h 15 i j := hA 15 (by decide)
  have eR : xFR h' = xFR h := r1
  have eL : xLS h' = xLS h := congrArg (fun x => x.2.2.1) r2
  have e : RC h' = RC h := by
    simp only [RC, RStop, TR, TRow, TDay, TNot, TN, BR, BRide, PR, RWalk, F_X9_isRun, rls, bj, tr, eR, eL, f403, f1000, f1003, f810, f800, f801, f802, f803, f811, f905, f1030, f1031, f103, f101, f102, f302, f300, f304, f303, f501, f502, f503, f505, a28, a47, a30, a49, a29, a48, a31, a32, a45, a50, a51, a33, a53, a42, a43, a44, a46, a52, a22, a40, a23, a41, a24, a25, a26, a54, a55, a56, a65, a66, a67, a68, a69, a70, a71, a72, a73, a74, a75, a15]
  rw [e]
  exact H
theorem SCR.fq {S : Nat → Int32} {n : Nat} {h h' : Hp} (H : SCR S n h) (q : FQ h h') : SCR S n h' := ⟨fun j => (q.2.2 16 (by decide) 0 j).trans (H.1 j), by
  have eL : xLS h' = xLS h := congrArg (fun x => x.2.2.1) q.1.2
  rw [eL]
  exact H.2⟩
theorem CN.sr {h h' : Hp} (C : CN h) (x : SR h h') : CN h' := by rw [x.eqv]; exact C
theorem Inv.fq {S : Nat → Int32} {n : Nat} {h h' : Hp} (I : Inv S n h) (q : FQ h h') (D : DM h') : Inv S n h' := ⟨I.W.sr q.1, I.C.sr q.1, I.MW.sr q.1, D, I.S.fq q, I.R.fq q⟩
/-- a refused call -/
theorem ag_err {S : Nat → Int32} {n : Nat} {h mh : Hp} (I : Inv S n h) {l : List String} {E : String} {k : Int32} {V : Prop} (q : FQ h mh) (hm : xFI mh 1043 0 = k) (hk : cdR l (.inr E) = k) (hk0 : ¬ k = 0) : AG S n l (.inr E) h mh V :=
  ⟨⟨I.MW, I.D, I.S⟩, fun m => I.fq q m.2, hm.trans hk.symm, fun e => absurd (hk.symm.trans e) hk0⟩
theorem fqe1 {h : Hp} {k : Int32} : FQ h (sFI h 1043 0 k) := FQ.sfi (by decide)
theorem fqe2 {h : Hp} {k m : Int32} : FQ h (sFI (sFI h 1043 0 m) 1043 0 k) := fqe1.trans fqe1
theorem DM.al {h : Hp} {v : Int64} (D : DM h) : DM (sAL h v) := D
theorem DM.ad {h : Hp} {v : UInt64} (D : DM h) : DM (sAD h v) := D
