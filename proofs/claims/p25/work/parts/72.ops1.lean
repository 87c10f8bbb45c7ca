/-! ===== own: what the plain calls tell and leave ===== -/
theorem okR_mk {k lo hi : Nat} (h1 : lo ≤ k) (h2 : k ≤ hi) (hh : hi < 2147483648) : okR (nI k) (nI lo) (nI hi) := ⟨fun q => by have := (nI_ltI (by omega) (by omega)).mp q; omega, (nI_leI (by omega) hh).mpr h2⟩
theorem okS_mk {h : Hp} {n k : Nat} (h4 : xFI h 403 0 = nI n) (hn : n ≤ 10) (hk : k < n) : okS h (nI k) := (okS_iff h4 hn).mpr ⟨k, hk, rfl⟩
theorem okT_mk {h : Hp} (W : CW h) {t : Nat} (ht : t < xLS h 11) : okT h (nI t) := (okT_iff W).mpr ⟨t, ht, rfl⟩
theorem okB_mk {h : Hp} (W : CW h) {b : Nat} (hb : b < xLS h 12) : okB h (nI b) := (okB_iff W).mpr ⟨b, hb, rfl⟩
theorem IV.W {h : Hp} {D : Nat → Int32} (I : IV h D) : CW h := I.1.1
theorem IV.R {h : Hp} {D : Nat → Int32} (I : IV h D) : RC h := I.2.1
theorem IV.d0 {h : Hp} {D : Nat → Int32} (I : IV h D) : ∃ n, n ≤ 10 ∧ xFI h 403 0 = nI n ∧ D 0 = nI n := by
  obtain ⟨n, ⟨h1, h2, -⟩, -⟩ := I.R.1
  exact ⟨n, h1, h2, I.2.2.2.1.trans h2⟩
/-- the law's row says the same -/
theorem IV.dcg {h : Hp} {D D' : Nat → Int32} (I : IV h D) (e : ∀ z, D' z = D z) : IV h D' := by
  have : D' = D := funext e
  rw [this]; exact I
/-- a call that changes but numbers of which nothing here speaks -/
theorem IV.fx {fs ss : List Nat} {h h' : Hp} {D : Nat → Int32} (I : IV h D) (q : FX fs ss h h') (hf : ∀ f, f ∈ [101, 103, 403, 501, 800, 802, 803, 810, 811] → f ∉ fs) (hs : ∀ s, s ∈ [22, 23, 24, 25, 26, 28, 29, 30, 32] → s ∉ ss) : IV h' D := by
  obtain ⟨I1, I2, I3, I4, I5, I6, I7⟩ := I
  refine ⟨I1.sr q.1, I2.fx q (fun f hm => hf f (by revert hm; revert f; decide)) hs, SI.cg I1.1 I2 q.1 (q.fi (hf 800 (by decide))) (q.fi (hf 501 (by decide))) (q.fi (hf 803 (by decide))) (fun b _ e => by rw [q.fi (hf 103 (by decide))]; exact e) I3, ?_, ?_, ?_, fun t ht => ?_⟩
  · rw [q.fi (hf 403 (by decide))]; exact I4
  · rw [q.ls]; exact I5
  · rw [q.ls]; exact I6
  · rw [q.ls] at ht
    rw [q.fi (hf 803 (by decide)), q.fi (hf 810 (by decide))]
    exact I7 t ht
theorem iv_stop {h : Hp} {D : Nat → Int32} {k : Nat} (I : IV h D) (hk : k ≤ 60) : ∃ n, n ≤ 10 ∧ D 0 = nI n ∧
    ((n < 10 ∧ V_stop h (nI k) = nI n ∧ ∀ D', D' 0 = nI (n + 1) → (∀ z, z ≠ 0 → D' z = D z) → IV (F_X8_stop h (nI k)).2 D') ∨ (n = 10 ∧ V_stop h (nI k) = -2000000003 ∧ (F_X8_stop h (nI k)).2 = h)) := by
  obtain ⟨I1, ⟨⟨n, ⟨h10, h403, hst⟩, htr⟩, R2, R3, R4⟩, I3, I4, I5, I6, I7⟩ := I
  refine ⟨n, h10, I4.trans h403, ?_⟩
  have ok : okR (nI k) 0 60 := okR_mk (lo := 0) (hi := 60) (by omega) hk (by decide)
  by_cases c : n < 10
  · have cl : xFI h 403 0 < 10 := by rw [h403]; exact (nI_ltI (b := 10) (by omega) (by decide)).mpr c
    have eF : F_X8_stop h (nI k) = (.inl (some (.inl (.int (nI n)))), sFI (sAI h 22 0 n (nI k)) 403 0 (nI n + 1)) := by
      unfold F_X8_stop F_X3_addStop
      rw [if_pos ok, if_pos cl, fi_put, h403, put_in h (n := 10) (by decide) rfl c (by decide)]
    refine .inl ⟨c, by unfold V_stop; rw [eF]; rfl, fun D' d0 dz => ?_⟩
    rw [eF]
    have q : FX [403] [22] h (sFI (sAI h 22 0 n (nI k)) 403 0 (nI n + 1)) := (FX.sai (by decide)).trans (FX.sfi (by decide))
    have e4 : xFI (sFI (sAI h 22 0 n (nI k)) 403 0 (nI n + 1)) 403 0 = nI (n + 1) := by rw [fi_eq]; exact (nI_1 n)
    refine ⟨I1.sr q.1, ⟨⟨n + 1, ⟨by omega, e4, fun s hs => ?_⟩, fun t ht => ?_⟩, ?_, ?_, fun b hb => ?_⟩, SI.cg I1.1 ⟨⟨n, ⟨h10, h403, hst⟩, htr⟩, R2, R3, R4⟩ q.1 (q.fi (by decide)) (q.fi (by decide)) (q.fi (by decide)) (fun b _ e => by rw [q.fi (by decide)]; exact e) I3, d0.trans e4.symm, ?_, ?_, fun t ht => ?_⟩
    · by_cases c2 : s = n
      · exact ⟨k, hk, by rw [ai_fi, ai_ai, if_pos ⟨rfl, rfl, c2⟩]⟩
      · obtain ⟨w, w1, w2⟩ := hst s (by omega)
        exact ⟨w, w1, by rw [ai_fi, ai_ai, if_neg (fun z => c2 z.2.2)]; exact w2⟩
    · rw [q.ls] at ht
      exact ((htr t ht).fx q (by decide) (by decide)).mono (by omega)
    · unfold RWalk; rw [q.ai (by decide)]; exact R2
    · unfold PR; rw [q.ai (s := 24) (by decide), q.ai (s := 25) (by decide), q.ai (s := 26) (by decide)]; exact R3
    · rw [q.ls] at hb
      rw [q.fi (by decide)]; exact R4 b hb
    · rw [dz 1 (by decide), q.ls]; exact I5
    · rw [dz 2 (by decide), q.ls]; exact I6
    · rw [q.ls] at ht
      rw [dz (3 + t) (by omega), dz (23 + t) (by omega), q.fi (f := 803) (by decide), q.fi (f := 810) (by decide)]
      exact I7 t ht
  · have c9 : n = 10 := by omega
    have eF : F_X8_stop h (nI k) = (.inr cy_e2, h) := by
      unfold F_X8_stop
      rw [if_pos ok, if_neg (fun z => by rw [h403] at z; have := (nI_ltI (b := 10) (by omega) (by decide)).mp z; omega)]
    exact .inr ⟨c9, by unfold V_stop; rw [eF]; exact (by decide +kernel : rsI (.inr cy_e2) = -2000000003), by rw [eF]⟩
theorem iv_footway {h : Hp} {D : Nat → Int32} {a b n : Nat} {mi : Int32} (I : IV h D) (hn : xFI h 403 0 = nI n) (h10 : n ≤ 10) (ha : a < n) (hb : b < n) (hab : a ≠ b) (hm : W2 mi) :
    W2 (V_footway h (nI a) (nI b) mi) ∧ IV (F_X8_footway h (nI a) (nI b) mi).2 D ∧ xFI (F_X8_footway h (nI a) (nI b) mi).2 403 0 = nI n ∧ V_footway (F_X8_footway h (nI a) (nI b) mi).2 (nI b) (nI a) mi = mi := by
  obtain ⟨I1, ⟨R1, R2, R3, R4⟩, I3, I4, I5, I6, I7⟩ := I
  have hne : ¬ nI a = nI b := fun z => hab (nI_inj (by omega) (by omega) z)
  have hm0 : ¬ mi = 0 := by
    rcases hm with e | ⟨w, e, w1, w2⟩
    · rw [e]; decide
    · rw [e]; exact fun z => by have := nI_inj (b := 0) (by omega) (by decide) z; omega
  have okm : okR mi (-1) 120 := by
    rcases hm with e | ⟨w, e, w1, w2⟩
    · rw [e]; decide
    · rw [e]
      exact ⟨fun z => by
        rw [Int32.lt_iff_toInt_lt, nI_toInt (by omega)] at z
        have : (-1 : Int32).toInt = -1 := by decide
        omega, (nI_leI (b := 120) (by omega) (by decide)).mpr w2⟩
  have eF : ∀ (X : Hp) (p r : Nat), xFI X 403 0 = nI n → p < n → r < n → p ≠ r → F_X8_footway X (nI p) (nI r) mi = (.inl (some (.inl (.int (xAI X 23 0 (10 * p + r))))), sAI (sAI X 23 0 (10 * p + r) mi) 23 0 (10 * r + p) mi) := by
    intro X p r h4 hp hr hpr
    unfold F_X8_footway F_X3_walk F_X3_setWalk
    rw [if_pos (okS_mk h4 h10 hp), if_pos (okS_mk h4 h10 hr), if_neg (fun z => hpr (nI_inj (by omega) (by omega) z)), if_neg hm0, if_pos okm, ix10, ix10, at_in X (n := 100) (by decide) rfl (by omega) (by decide), put_in X (n := 100) (by decide) rfl (by omega) (by decide), put_in _ (n := 100) (by decide) rfl (by omega) (by decide)]
  have e1 := eF h a b hn ha hb hab
  have q : FX [] [23] h (sAI (sAI h 23 0 (10 * a + b) mi) 23 0 (10 * b + a) mi) := (FX.sai (by decide)).trans (FX.sai (by decide))
  rw [e1]
  have e403 : xFI (sAI (sAI h 23 0 (10 * a + b) mi) 23 0 (10 * b + a) mi) 403 0 = nI n := hn
  refine ⟨by unfold V_footway; rw [e1]; exact R2 a b (by omega) (by omega), ?_, e403, ?_⟩
  · refine ⟨I1.sr q.1, ⟨?_, fun x y hx hy => ?_, ?_, fun b hb => ?_⟩, SI.cg I1.1 ⟨R1, R2, R3, R4⟩ q.1 rfl rfl rfl (fun _ _ e => e) I3, I4, I5, I6, I7⟩
    · obtain ⟨m, ⟨m1, m2, m3⟩, m4⟩ := R1
      exact ⟨m, ⟨m1, m2, m3⟩, fun t ht => (m4 t ht).fx q (by decide) (by decide)⟩
    · rw [ai_ai, ai_ai]
      split
      · exact hm
      · split
        · exact hm
        · exact R2 x y hx hy
    · unfold PR; rw [q.ai (s := 24) (by decide), q.ai (s := 25) (by decide), q.ai (s := 26) (by decide)]; exact R3
    · exact R4 b hb
  · unfold V_footway
    rw [eF _ b a e403 hb ha (Ne.symm hab)]
    show xAI (sAI (sAI h 23 0 (10 * a + b) mi) 23 0 (10 * b + a) mi) 23 0 (10 * b + a) = mi
    rw [ai_ai, if_pos ⟨rfl, rfl, rfl⟩]
theorem iv_runs {h : Hp} {D : Nat → Int32} {t d : Nat} {v : Int32} (I : IV h D) (ht : t < xLS h 11) (hd : d < 100) (hv : v = 0 ∨ v = 1) :
    (V_runs h (nI t) (nI d) v = 0 ∨ V_runs h (nI t) (nI d) v = 1) ∧ IV (F_X8_runs h (nI t) (nI d) (if v = 1 then 1 else 0)).2 D ∧ xLS (F_X8_runs h (nI t) (nI d) (if v = 1 then 1 else 0)).2 = xLS h ∧ V_runs (F_X8_runs h (nI t) (nI d) (if v = 1 then 1 else 0)).2 (nI t) (nI d) v = v := by
  have okd : okR (nI d) 0 99 := okR_mk (lo := 0) (hi := 99) (by omega) (by omega) (by decide)
  have d0 : ¬ nI d < 0 := nI_pos (by omega)
  have d1 : ¬ 100 ≤ nI d := fun z => by have := (nI_leI (a := 100) (by decide) (by omega)).mp z; omega
  have hcl : (nI t).toNatClampNeg = t := nI_clamp (by have := I.W.t20; omega)
  have dcl : (nI d).toNatClampNeg = d := nI_clamp (by omega)
  have eF : ∀ X : Hp, okT X (nI t) → ∀ u : Int32, F_X8_runs X (nI t) (nI d) u = (.inl (some (.inl (.int (if xAI X 31 t d = 0 then 0 else 1)))), sAI X 31 t d u) := by
    intro X ok u
    unfold F_X8_runs F_X7_isThere F_X7_setThere
    rw [if_pos ok, if_pos okd, if_neg d0, if_neg d1, if_neg d0, if_neg d1, hcl, dcl]
  have e1 := eF h (okT_mk I.W ht) (if v = 1 then 1 else 0)
  have ev : (if v = 1 then 1 else 0 : Int32) = v := by rcases hv with e | e <;> rw [e] <;> rfl
  have q : FX [] [31] h (sAI h 31 t d v) := FX.sai (by decide)
  have rv : ∀ (u : Int32) (X : Hp), rsI (rD3 (.inl (some (.inl (.int (if u = 0 then 0 else 1)))))) = if u = 0 then 0 else 1 := fun u X => by
    show (if (if u = 0 then 0 else 1 : Int32) = 0 then 0 else 1 : Int32) = _
    by_cases c : u = 0
    · rw [if_pos c]; rfl
    · rw [if_neg c]; rfl
  rw [e1, ev]
  refine ⟨?_, I.fx q (by decide) (by decide), rfl, ?_⟩
  · unfold V_runs
    rw [e1, rv _ h]
    by_cases c : xAI h 31 t d = 0
    · exact .inl (if_pos c)
    · exact .inr (if_neg c)
  · unfold V_runs
    rw [eF _ (okT_mk (I.W.sr q.1) ht), rv _ h]
    have ex : xAI (sAI h 31 t d v) 31 t d = v := by rw [ai_ai, if_pos ⟨rfl, rfl, rfl⟩]
    rw [ex]
    rcases hv with e | e <;> rw [e] <;> rfl
theorem iv_delay {h : Hp} {D : Nat → Int32} {t d : Nat} {mi : Int32} (I : IV h D) (ht : t < xLS h 11) (hd : d < 100) (hm : -1 ≤ mi.toInt ∧ mi.toInt ≤ 600) :
    (-1 ≤ (V_delay h (nI t) (nI d) mi).toInt ∧ (V_delay h (nI t) (nI d) mi).toInt ≤ 600) ∧ IV (F_X8_delay h (nI t) (nI d) mi).2 D ∧ V_delay (F_X8_delay h (nI t) (nI d) mi).2 (nI t) (nI d) mi = mi := by
  have okd : okR (nI d) 0 99 := okR_mk (lo := 0) (hi := 99) (by omega) (by omega) (by decide)
  have okm : okR mi (-1) 600 := by
    have e1 : (-1 : Int32).toInt = -1 := by decide
    have e2 : (600 : Int32).toInt = 600 := by decide
    exact ⟨fun z => by rw [Int32.lt_iff_toInt_lt] at z; omega, by rw [Int32.le_iff_toInt_le]; omega⟩
  have hcl : (nI t).toNatClampNeg = t := nI_clamp (by have := I.W.t20; omega)
  have eF : ∀ X : Hp, okT X (nI t) → F_X8_delay X (nI t) (nI d) mi = (.inl (some (.inl (.int (xAI X 32 t d)))), sAI X 32 t d mi) := by
    intro X ok
    unfold F_X8_delay
    rw [if_pos ok, if_pos okd, if_pos okm, hcl, at_in X (n := 100) (by decide) rfl hd (by decide), put_in X (n := 100) (by decide) rfl hd (by decide)]
  have e1 := eF h (okT_mk I.W ht)
  have q : FX [] [32] h (sAI h 32 t d mi) := FX.sai (by decide)
  rw [e1]
  obtain ⟨I1, ⟨⟨m, ms, htr⟩, R2, R3, R4⟩, I3, I4, I5, I6, I7⟩ := id I
  refine ⟨?_, ⟨I1.sr q.1, ⟨⟨m, ms, fun t' ht' => ?_⟩, R2, R3, R4⟩, SI.cg I1.1 ⟨⟨m, ms, htr⟩, R2, R3, R4⟩ q.1 rfl rfl rfl (fun _ _ e => e) I3, I4, I5, I6, I7⟩, ?_⟩
  · unfold V_delay
    rw [e1]
    exact (htr t ht).2.2.2.2.1 d hd
  · obtain ⟨a1, a2, a3, a4, a5, a6⟩ := htr t' ht'
    refine ⟨a1, a2, a3, a4, fun d' hd' => ?_, a6⟩
    unfold TDay
    rw [ai_ai]
    split
    · exact hm
    · exact a5 d' hd'
  · unfold V_delay
    rw [eF _ (okT_mk (I.W.sr q.1) ht)]
    show xAI (sAI h 32 t d mi) 32 t d = mi
    rw [ai_ai, if_pos ⟨rfl, rfl, rfl⟩]
theorem iv_note {h : Hp} {D : Nat → Int32} {t k : Nat} (I : IV h D) (ht : t < xLS h 11) (hk : k ≤ 600) :
    IV (F_X8_note h (nI t) (nI k)).2 D ∧ (V_note h (nI t) (nI k) = -2000000003 ∨ ∃ c, 1 ≤ c ∧ c ≤ 30 ∧ V_note h (nI t) (nI k) = nI c) := by
  have hcl : (nI t).toNatClampNeg = t := nI_clamp (by have := I.W.t20; omega)
  have okm : okR (nI k) 0 600 := okR_mk (lo := 0) (hi := 600) (by omega) hk (by decide)
  obtain ⟨I1, ⟨⟨m, ms, htr⟩, R2, R3, R4⟩, I3, I4, I5, I6, I7⟩ := id I
  obtain ⟨c, c1, c2⟩ := (htr t ht).2.2.2.2.2
  by_cases c3 : c < 30
  · have eF : F_X8_note h (nI t) (nI k) = (.inl (some (.inl (.int (nI c + 1)))), sFI (sAI h 33 t c (nI k)) 811 t (nI c + 1)) := by
      unfold F_X8_note
      rw [if_pos (okT_mk I.W ht), if_pos okm, hcl, if_pos (by rw [c2]; exact (nI_ltI (b := 30) (by omega) (by decide)).mpr c3), fi_put, c2, put_in h (n := 30) (by decide) rfl c3 (by decide), fi_eq]
    rw [eF]
    have q : FX [811] [33] h (sFI (sAI h 33 t c (nI k)) 811 t (nI c + 1)) := (FX.sai (by decide)).trans (FX.sfi (by decide))
    refine ⟨⟨I1.sr q.1, ⟨⟨m, ms, fun t' ht' => ?_⟩, R2, R3, R4⟩, SI.cg I1.1 ⟨⟨m, ms, htr⟩, R2, R3, R4⟩ q.1 (q.fi (by decide)) (q.fi (by decide)) (q.fi (by decide)) (fun b _ e => by rw [q.fi (by decide)]; exact e) I3, I4, I5, I6, fun t' ht' => ?_⟩, .inr ⟨c + 1, by omega, by omega, ?_⟩⟩
    · obtain ⟨a1, a2, a3, a4, a5, a6⟩ := htr t' ht'
      refine ⟨by rw [q.fi (f := 800) (by decide)]; exact a1, by rw [q.fi (f := 802) (by decide)]; exact a2, by rw [q.fi (f := 803) (by decide)]; exact a3, ?_, a5, ?_⟩
      · obtain ⟨len, st, lv, ar, r1, r2, r3, r4⟩ := a4
        exact ⟨len, st, lv, ar, r1, r2, by rw [q.fi (f := 810) (by decide)]; exact r3, r4⟩
      · by_cases c4 : t' = t
        · exact ⟨c + 1, by omega, by rw [c4, fi_eq]; exact nI_1 c⟩
        · obtain ⟨c', c5, c6⟩ := a6
          exact ⟨c', c5, by rw [fi_ni c4]; exact c6⟩
    · rw [q.fi (f := 803) (by decide), q.fi (f := 810) (by decide)]
      exact I7 t' ht'
    · unfold V_note
      rw [eF]
      exact nI_1 c
  · have eF : F_X8_note h (nI t) (nI k) = (.inr cy_e2, h) := by
      unfold F_X8_note
      rw [if_pos (okT_mk I.W ht), if_pos okm, hcl, if_neg (fun z => by rw [c2] at z; have := (nI_ltI (b := 30) (by omega) (by decide)).mp z; omega)]
    rw [eF]
    exact ⟨I, .inl (by unfold V_note; rw [eF]; exact (by decide +kernel : rsI (.inr cy_e2) = -2000000003))⟩
theorem iv_prices {h : Hp} {D : Nat → Int32} {f x y z : Nat} (I : IV h D) (hf : f < 3) (hx : x ≤ 10000) (hy : y ≤ 1000) (hz : z ≤ 10000) : IV (F_X8_prices h (nI f) (nI x) (nI y) (nI z)).2 D ∧ V_prices h (nI f) (nI x) (nI y) (nI z) = 0 := by
  have okf : okF (nI f) := ⟨nI_pos (by omega), (nI_ltI (b := 3) (by omega) (by decide)).mpr hf⟩
  have eF : F_X8_prices h (nI f) (nI x) (nI y) (nI z) = (.inl none, sAI (sAI (sAI h 24 0 f (nI x)) 25 0 f (nI y)) 26 0 f (nI z)) := by
    have o1 : okR (nI x) 0 10000 := okR_mk (lo := 0) (hi := 10000) (by omega) hx (by decide)
    have o2 : okR (nI y) 0 1000 := okR_mk (lo := 0) (hi := 1000) (by omega) hy (by decide)
    have o3 : okR (nI z) 0 10000 := okR_mk (lo := 0) (hi := 10000) (by omega) hz (by decide)
    unfold F_X8_prices F_X1_setPrices
    rw [if_pos okf, if_pos o1, if_pos o2, if_pos o3, put_in h (n := 3) (by decide) rfl hf (by decide), put_in _ (n := 3) (by decide) rfl hf (by decide), put_in _ (n := 3) (by decide) rfl hf (by decide)]
  rw [eF]
  have q : FX [] [24, 25, 26] h (sAI (sAI (sAI h 24 0 f (nI x)) 25 0 f (nI y)) 26 0 f (nI z)) := ((FX.sai (by decide)).trans (FX.sai (by decide))).trans (FX.sai (by decide))
  obtain ⟨I1, ⟨⟨m, ms, htr⟩, R2, R3, R4⟩, I3, I4, I5, I6, I7⟩ := id I
  refine ⟨⟨I1.sr q.1, ⟨⟨m, ms, fun t' ht' => (htr t' ht').fx q (by decide) (by decide)⟩, ?_, fun g hg => ?_, R4⟩, SI.cg I1.1 ⟨⟨m, ms, htr⟩, R2, R3, R4⟩ q.1 rfl rfl rfl (fun _ _ e => e) I3, I4, I5, I6, I7⟩, by unfold V_prices; rw [eF]; rfl⟩
  · unfold RWalk; rw [q.ai (by decide)]; exact R2
  · by_cases c : g = f
    · subst c
      refine ⟨x, y, z, hx, hy, hz, ?_, ?_, ?_⟩
      · rw [ai_ai, if_neg (fun w => absurd w.1 (by decide)), ai_ai, if_neg (fun w => absurd w.1 (by decide)), ai_ai, if_pos ⟨rfl, rfl, rfl⟩]
      · rw [ai_ai, if_neg (fun w => absurd w.1 (by decide)), ai_ai, if_pos ⟨rfl, rfl, rfl⟩]
      · rw [ai_ai, if_pos ⟨rfl, rfl, rfl⟩]
    · obtain ⟨a, b, d, a1, a2, a3, a4, a5, a6⟩ := R3 g hg
      refine ⟨a, b, d, a1, a2, a3, ?_, ?_, ?_⟩
      · rw [ai_ai, if_neg (fun w => c w.2.2), ai_ai, if_neg (fun w => c w.2.2), ai_ai, if_neg (fun w => c w.2.2)]; exact a4
      · rw [ai_ai, if_neg (fun w => c w.2.2), ai_ai, if_neg (fun w => c w.2.2), ai_ai, if_neg (fun w => c w.2.2)]; exact a5
      · rw [ai_ai, if_neg (fun w => c w.2.2), ai_ai, if_neg (fun w => c w.2.2), ai_ai, if_neg (fun w => c w.2.2)]; exact a6
