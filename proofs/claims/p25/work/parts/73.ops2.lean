/-! ===== own: calls that go on with a trip, buy, claim, pass ===== -/
theorem iv_calls {h : Hp} {D : Nat → Int32} {t s ri wa n : Nat} (I : IV h D) (ht : t < xLS h 11) (hn : xFI h 403 0 = nI n) (hn10 : n ≤ 10) (hs : s < n) (h1 : 1 ≤ ri) (h2 : ri ≤ 300) (h3 : wa ≤ 60) : ∃ len, 1 ≤ len ∧ len ≤ 6 ∧ D (23 + t) = nI len ∧
    ((V_calls h (nI t) (nI s) (nI ri) (nI wa) = -2000000003 ∧ (F_X8_calls h (nI t) (nI s) (nI ri) (nI wa)).2 = h ∧ (len = 6 ∨ 0 < xLS h 12)) ∨
     (len < 6 ∧ V_calls h (nI t) (nI s) (nI ri) (nI wa) = nI (len + 1) ∧ ∀ D', D' (23 + t) = nI (len + 1) → (∀ z, z ≠ 23 + t → D' z = D z) → IV (F_X8_calls h (nI t) (nI s) (nI ri) (nI wa)).2 D')) := by
  have h20 := I.W.t20
  have hcl : (nI t).toNatClampNeg = t := nI_clamp (by omega)
  have o1 : okR (nI ri) 1 300 := okR_mk (lo := 1) (hi := 300) h1 h2 (by decide)
  have o2 : okR (nI wa) 0 60 := okR_mk (lo := 0) (hi := 60) (by omega) h3 (by decide)
  obtain ⟨I1, ⟨⟨m, ms, htr⟩, R2, R3, R4⟩, I3, I4, I5, I6, I7⟩ := id I
  have hmn : m = n := nI_inj (by have := ms.1; omega) (by omega) (ms.2.1.symm.trans hn)
  subst hmn
  obtain ⟨a1, a2, a3, ⟨len, st, lv, ar, r1, r2, r3, r4⟩, a5, a6⟩ := htr t ht
  refine ⟨len, r1, r2, (I7 t ht).2.trans r3, ?_⟩
  have e2 : rsI (.inr cy_e2) = -2000000003 := by decide +kernel
  by_cases c6 : len < 6
  · rcases bk_cls I.W (t := t) (xLS h 12) 0 (2147483648 - 0 + 1) (by omega) (by have := I.W.b30; omega) with ⟨bk, -⟩ | ⟨bk, b, -, hb, -⟩
    · right
      have eG : F_X7_goOn h t (nI s) (nI ri) (nI wa) = sFI (sAI (sAI (sAI h 28 t len (nI s)) 29 t len (nI (lv (len - 1) + ri))) 30 t len (nI (lv (len - 1) + ri + wa))) 810 t (nI len + 1) := by
        unfold F_X7_goOn
        simp only [fi_put]
        have e9 : xFI h 810 t - 1 = nI (len - 1) := by
          obtain ⟨l, rfl⟩ : ∃ l, len = l + 1 := ⟨len - 1, by omega⟩
          rw [r3]
          exact nI_m1 l
        have e8 : F_at h 30 t (nI (len - 1)) = nI (lv (len - 1)) := by rw [at_in h (n := 6) (by decide) rfl (by omega) (by decide)]; exact (r4 (len - 1) (by omega)).2.2.1
        rw [e9, e8, r3, nI_add, nI_add, put_in h (n := 6) (by decide) rfl c6 (by decide), put_in _ (n := 6) (by decide) rfl c6 (by decide), put_in _ (n := 6) (by decide) rfl c6 (by decide)]
      have eF : F_X8_calls h (nI t) (nI s) (nI ri) (nI wa) = (.inl (some (.inl (.int (nI len + 1)))), sFI (sAI (sAI (sAI h 28 t len (nI s)) 29 t len (nI (lv (len - 1) + ri))) 30 t len (nI (lv (len - 1) + ri + wa))) 810 t (nI len + 1)) := by
        unfold F_X8_calls
        rw [if_pos (okT_mk I.W ht), if_pos (okS_mk hn hn10 hs), if_pos o1, if_pos o2, hcl, if_neg (fun z => by rw [r3] at z; have := (nI_leI (a := 6) (by decide) (by omega)).mp z; omega), if_pos (show F_X8_isBooked h t = 0 from bk), eG, fi_eq]
      refine ⟨c6, by unfold V_calls; rw [eF]; exact nI_1 len, fun D' d0 dz => ?_⟩
      rw [eF]
      have q : FX [810] [28, 29, 30] h (sFI (sAI (sAI (sAI h 28 t len (nI s)) 29 t len (nI (lv (len - 1) + ri))) 30 t len (nI (lv (len - 1) + ri + wa))) 810 t (nI len + 1)) := (((FX.sai (by decide)).trans (FX.sai (by decide))).trans (FX.sai (by decide))).trans (FX.sfi (by decide))
      refine ⟨I1.sr q.1, ⟨⟨m, ms, fun t' ht' => ?_⟩, ?_, ?_, fun b hb => ?_⟩, SI.cg I1.1 ⟨⟨m, ms, htr⟩, R2, R3, R4⟩ q.1 (q.fi (by decide)) (q.fi (by decide)) (q.fi (by decide)) (fun b _ e => by rw [q.fi (by decide)]; exact e) I3, ?_, ?_, ?_, fun t' ht' => ?_⟩
      · by_cases c : t' = t
        · subst c
          refine ⟨by rw [q.fi (f := 800) (by decide)]; exact a1, by rw [q.fi (f := 802) (by decide)]; exact a2, by rw [q.fi (f := 803) (by decide)]; exact a3, ⟨len + 1, fun p => if p = len then s else st p, fun p => if p = len then lv (len - 1) + ri + wa else lv p, fun p => if p = len then lv (len - 1) + ri else ar p, by omega, by omega, by rw [fi_eq]; exact nI_1 len, fun p hp => ?_⟩, a5, by unfold TNot; rw [q.fi (f := 811) (by decide)]; exact a6⟩
          have hlv : lv (len - 1) ≤ 1440 + 360 * (len - 1) := (r4 (len - 1) (by omega)).2.2.2.1
          by_cases cp : p = len
          · dsimp only
            rw [if_pos cp, if_pos cp, if_pos cp, if_neg (show ¬ p - 1 = len by omega), cp]
            refine ⟨?_, hs, ?_, by omega, fun _ => ⟨?_, by omega, by omega⟩⟩
            · rw [ai_fi, ai_ai, if_neg (fun w => absurd w.1 (by decide)), ai_ai, if_neg (fun w => absurd w.1 (by decide)), ai_ai, if_pos ⟨rfl, rfl, rfl⟩]
            · rw [ai_fi, ai_ai, if_pos ⟨rfl, rfl, rfl⟩]
            · rw [ai_fi, ai_ai, if_neg (fun w => absurd w.1 (by decide)), ai_ai, if_pos ⟨rfl, rfl, rfl⟩]
          · obtain ⟨u1, u2, u3, u4, u5⟩ := r4 p (by omega)
            dsimp only
            rw [if_neg cp, if_neg cp, if_neg cp, if_neg (show ¬ p - 1 = len by omega)]
            refine ⟨?_, u2, ?_, u4, fun p0 => ⟨?_, (u5 p0).2⟩⟩
            · rw [ai_fi, ai_ai, if_neg (fun w => cp w.2.2), ai_ai, if_neg (fun w => cp w.2.2), ai_ai, if_neg (fun w => cp w.2.2)]; exact u1
            · rw [ai_fi, ai_ai, if_neg (fun w => cp w.2.2), ai_ai, if_neg (fun w => cp w.2.2), ai_ai, if_neg (fun w => cp w.2.2)]; exact u3
            · rw [ai_fi, ai_ai, if_neg (fun w => cp w.2.2), ai_ai, if_neg (fun w => cp w.2.2), ai_ai, if_neg (fun w => cp w.2.2)]; exact (u5 p0).1
        · have row : ∀ s', xAI (sFI (sAI (sAI (sAI h 28 t len (nI s)) 29 t len (nI (lv (len - 1) + ri))) 30 t len (nI (lv (len - 1) + ri + wa))) 810 t (nI len + 1)) s' t' = xAI h s' t' := fun s' => by
            funext j
            rw [ai_fi, ai_ai, if_neg (fun w => c w.2.1), ai_ai, if_neg (fun w => c w.2.1), ai_ai, if_neg (fun w => c w.2.1)]
          exact TR.cg (by rw [q.fi (f := 800) (by decide)]) (by rw [q.fi (f := 802) (by decide)]) (by rw [q.fi (f := 803) (by decide)]) (by rw [fi_ni c]; rfl) (by rw [q.fi (f := 811) (by decide)]) (row 28) (row 29) (row 30) (row 32) (htr t' ht')
      · unfold RWalk; rw [q.ai (by decide)]; exact R2
      · unfold PR; rw [q.ai (s := 24) (by decide), q.ai (s := 25) (by decide), q.ai (s := 26) (by decide)]; exact R3
      · exact R4 b hb
      · rw [dz 0 (by omega), q.fi (f := 403) (by decide)]; exact I4
      · rw [dz 1 (by omega)]; exact I5
      · rw [dz 2 (by omega)]; exact I6
      · have ht'' : t' < xLS h 11 := ht'
        rw [dz (3 + t') (by omega), q.fi (f := 803) (by decide)]
        refine ⟨(I7 t' ht'').1, ?_⟩
        by_cases c : t' = t
        · rw [c, d0, fi_eq]; exact (nI_1 len).symm
        · rw [dz (23 + t') (by omega), fi_ni c]; exact (I7 t' ht'').2
    · left
      have eF : F_X8_calls h (nI t) (nI s) (nI ri) (nI wa) = (.inr cy_e2, h) := by
        unfold F_X8_calls
        rw [if_pos (okT_mk I.W ht), if_pos (okS_mk hn hn10 hs), if_pos o1, if_pos o2, hcl, if_neg (fun z => by rw [r3] at z; have := (nI_leI (a := 6) (by decide) (by omega)).mp z; omega), if_neg (show ¬ F_X8_isBooked h t = 0 by rw [show F_X8_isBooked h t = 1 from bk]; decide)]
      exact ⟨by unfold V_calls; rw [eF]; exact e2, by rw [eF], .inr (by omega)⟩
  · left
    have eF : F_X8_calls h (nI t) (nI s) (nI ri) (nI wa) = (.inr cy_e2, h) := by
      unfold F_X8_calls
      rw [if_pos (okT_mk I.W ht), if_pos (okS_mk hn hn10 hs), if_pos o1, if_pos o2, hcl, if_pos (by rw [r3]; exact (nI_leI (a := 6) (by decide) (by omega)).mpr (by omega))]
    exact ⟨by unfold V_calls; rw [eF]; exact e2, by rw [eF], .inl (by omega)⟩
/-- states change: neither to nor from 'dropped' but to it -/
theorem IV.st {fs : List Nat} {h h' : Hp} {D : Nat → Int32} (I : IV h D) (q : FX fs [] h h') (hf : ∀ f, f ∈ fs → f = 103 ∨ f = 905) (e : ∀ b, b < xLS h 12 → xFI h 103 b = 2 → xFI h' 103 b = 2) : IV h' D := by
  obtain ⟨I1, I2, I3, I4, I5, I6, I7⟩ := I
  have nf : ∀ f, f ≠ 103 → f ≠ 905 → f ∉ fs := fun f a b z => by rcases hf f z with w | w; exact a w; exact b w
  refine ⟨I1.sr q.1, I2.fx q (fun f hm => nf f (by rintro rfl; revert hm; decide) (by rintro rfl; revert hm; decide)) (fun s _ z => by cases z), SI.cg I1.1 I2 q.1 (q.fi (nf _ (by decide) (by decide))) (q.fi (nf _ (by decide) (by decide))) (q.fi (nf _ (by decide) (by decide))) e I3, ?_, ?_, ?_, fun t ht => ?_⟩
  · rw [q.fi (nf 403 (by decide) (by decide))]; exact I4
  · rw [q.ls]; exact I5
  · rw [q.ls]; exact I6
  · rw [q.ls] at ht
    rw [q.fi (nf 803 (by decide) (by decide)), q.fi (nf 810 (by decide) (by decide))]
    exact I7 t ht
theorem iv_buy {h : Hp} {D : Nat → Int32} {b : Nat} (I : IV h D) (hb : b < xLS h 12) :
    (xFI h 103 b = 0 ∧ V_buy h (nI b) = xFI h 101 b ∧ IV (F_X8_buy h (nI b)).2 D ∧ V_ofBooking (F_X8_buy h (nI b)).2 (nI b) 0 = 1) ∨ (¬ xFI h 103 b = 0 ∧ V_buy h (nI b) = -2000000003 ∧ (F_X8_buy h (nI b)).2 = h) := by
  have hcl : (nI b).toNatClampNeg = b := nI_clamp (by have := I.W.b30; omega)
  by_cases c : xFI h 103 b = 0
  · left
    have eF : F_X8_buy h (nI b) = (.inl (some (.inl (.int (xFI h 101 b)))), sFI h 103 b 1) := by
      unfold F_X8_buy
      rw [if_pos (okB_mk I.W hb), hcl, if_pos c, fi_ne (by decide)]
    rw [eF]
    refine ⟨c, by unfold V_buy; rw [eF]; rfl, I.st (fs := [103]) (FX.sfi (by decide)) (fun f hf => .inl (List.mem_singleton.mp hf)) (fun b' hb' e => ?_), ?_⟩
    · rw [fi_fi]
      split
      · rename_i z
        rw [z.2, c] at e
        exact absurd e (by decide)
      · exact e
    · have I' : CW (sFI h 103 b 1) := I.W.sr ⟨rfl, rfl⟩
      unfold V_ofBooking F_X8_ofBooking
      rw [if_pos (okB_mk I' hb), if_pos (show okR (0 : Int32) 0 3 by decide), if_pos rfl, hcl, fi_eq]
      rfl
  · right
    have eF : F_X8_buy h (nI b) = (.inr cy_e2, h) := by
      unfold F_X8_buy
      rw [if_pos (okB_mk I.W hb), hcl, if_neg c]
    exact ⟨c, by unfold V_buy; rw [eF]; exact (by decide +kernel : rsI (.inr cy_e2) = -2000000003), by rw [eF]⟩
theorem v_state {h : Hp} (W : CW h) {b : Nat} (hb : b < xLS h 12) : V_ofBooking h (nI b) 0 = xFI h 103 b ∧ V_ofBooking h (nI b) 1 = xFI h 101 b ∧ V_right h (nI b) = F_X0_amount h b := by
  have hcl : (nI b).toNatClampNeg = b := nI_clamp (by have := W.b30; omega)
  refine ⟨?_, ?_, ?_⟩
  · unfold V_ofBooking F_X8_ofBooking
    rw [if_pos (okB_mk W hb), if_pos (show okR (0 : Int32) 0 3 by decide), if_pos rfl, hcl]
    rfl
  · unfold V_ofBooking F_X8_ofBooking
    rw [if_pos (okB_mk W hb), if_pos (show okR (1 : Int32) 0 3 by decide), if_neg (by decide), if_pos rfl, hcl]
    rfl
  · unfold V_right F_X8_right
    rw [if_pos (okB_mk W hb), hcl]
    rfl
theorem iv_claim {h : Hp} {D : Nat → Int32} {b : Nat} (I : IV h D) (hb : b < xLS h 12) :
    (¬ F_X0_amount h b = 0 ∧ V_claim h (nI b) = F_X0_amount h b ∧ IV (F_X8_claim h (nI b)).2 D ∧ V_ofBooking (F_X8_claim h (nI b)).2 (nI b) 0 = 3 ∧ V_right (F_X8_claim h (nI b)).2 (nI b) = 0) ∨ (F_X0_amount h b = 0 ∧ V_claim h (nI b) = -2000000003 ∧ (F_X8_claim h (nI b)).2 = h) := by
  have hcl : (nI b).toNatClampNeg = b := nI_clamp (by have := I.W.b30; omega)
  by_cases c : F_X0_amount h b = 0
  · right
    have eF : F_X8_claim h (nI b) = (.inr cy_e2, h) := by
      unfold F_X8_claim
      rw [if_pos (okB_mk I.W hb), hcl, if_pos c]
    exact ⟨c, by unfold V_claim; rw [eF]; exact (by decide +kernel : rsI (.inr cy_e2) = -2000000003), by rw [eF]⟩
  · left
    have eF : F_X8_claim h (nI b) = (.inl (some (.inl (.int (F_X0_amount h b)))), sFI h 103 b 3) := by
      unfold F_X8_claim
      rw [if_pos (okB_mk I.W hb), hcl, if_neg c]
    have s1 : xFI h 103 b = 1 := by
      refine Classical.not_not.mp fun z => c ?_
      unfold F_X0_amount
      rw [if_neg z]
    rw [eF]
    have I' : CW (sFI h 103 b 3) := I.W.sr ⟨rfl, rfl⟩
    have v := v_state I' (b := b) hb
    refine ⟨c, by unfold V_claim; rw [eF]; rfl, I.st (fs := [103]) (FX.sfi (by decide)) (fun f hf => .inl (List.mem_singleton.mp hf)) (fun b' hb' e => ?_), by rw [v.1, fi_eq], ?_⟩
    · rw [fi_fi]
      split
      · rename_i z
        rw [z.2, s1] at e
        exact absurd e (by decide)
      · exact e
    · rw [v.2.2]
      unfold F_X0_amount
      rw [fi_eq, if_neg (by decide)]
theorem iv_pass {h : Hp} {D : Nat → Int32} {x : Nat} (I : IV h D) (h1 : 1 ≤ x) (h2 : x ≤ 1440) : ∃ k, k ≤ xLS h 12 ∧ V_pass h (nI x) = nI k ∧ IV (F_X8_pass h (nI x)).2 D := by
  have key : ∀ (m i fu : Nat) (X : Hp) (dr : Nat), i + m = xLS h 12 → m < fu → dr + m ≤ xLS h 12 → FX [103, 905] [] h X → (∀ b, b < xLS h 12 → xFI h 103 b = 2 → xFI X 103 b = 2) →
      ∃ k, k ≤ xLS h 12 ∧ (L_X8_pass_22 h (nI x) fu X (nI dr) i).1 = .inl (some (.inl (.int (nI k)))) ∧ FX [103, 905] [] h (L_X8_pass_22 h (nI x) fu X (nI dr) i).2 ∧ ∀ b, b < xLS h 12 → xFI h 103 b = 2 → xFI (L_X8_pass_22 h (nI x) fu X (nI dr) i).2 103 b = 2 := by
    have h30 := I.W.b30
    intro m
    induction m with
    | zero =>
      intro i fu X dr hi hf hd q e
      obtain ⟨fu, rfl⟩ : ∃ g, fu = g + 1 := ⟨fu - 1, by omega⟩
      rw [L_X8_pass_22_s]
      unfold B_X8_pass_22
      rw [q.ls, if_pos (by rw [← hi, Nat.add_zero]; exact Int32.le_refl _)]
      exact ⟨dr, by omega, rfl, q, e⟩
    | succ m ih =>
      intro i fu X dr hi hf hd q e
      obtain ⟨fu, rfl⟩ : ∃ g, fu = g + 1 := ⟨fu - 1, by omega⟩
      rw [L_X8_pass_22_s]
      unfold B_X8_pass_22
      rw [q.ls, if_neg (fun z => by have := (nI_leI (by omega) (by omega)).mp z; omega)]
      by_cases c1 : xFI X 103 i = 0
      · rw [if_pos c1]
        by_cases c2 : xFI X 905 0 - xFI X 102 i ≤ 30
        · rw [if_pos c2]
          exact ih (i + 1) fu X dr (by omega) (by omega) (by omega) q e
        · rw [if_neg c2, nI_1 dr]
          refine ih (i + 1) fu (sFI X 103 i 2) (dr + 1) (by omega) (by omega) (by omega) (q.trans (FX.sfi (by decide))) (fun b hb e' => ?_)
          rw [fi_fi]
          split
          · rfl
          · exact e b hb e'
      · rw [if_neg c1]
        exact ih (i + 1) fu X dr (by omega) (by omega) (by omega) q e
  have o1 : okR (nI x) 1 1440 := okR_mk (lo := 1) (hi := 1440) h1 h2 (by decide)
  obtain ⟨k, k1, k2, k3, k4⟩ := key (xLS h 12) 0 (2147483648 - 0 + 1) (sFI h 905 0 (xFI h 905 0 + nI x)) 0 (by omega) (by have := I.W.b30; omega) (by omega) (FX.sfi (by decide)) (fun b hb e => by rw [fi_ne (by decide)]; exact e)
  have eF : F_X8_pass h (nI x) = L_X8_pass_22 h (nI x) (2147483648 - 0 + 1) (sFI h 905 0 (xFI h 905 0 + nI x)) 0 0 := by
    unfold F_X8_pass
    rw [if_pos o1]
  refine ⟨k, k1, ?_, ?_⟩
  · unfold V_pass
    rw [eF]
    show rsI (L_X8_pass_22 h (nI x) (2147483648 - 0 + 1) (sFI h 905 0 (xFI h 905 0 + nI x)) (nI 0) 0).1 = _
    rw [k2]
    rfl
  · rw [eF]
    exact I.st k3 (fun f hf => by simp only [List.mem_cons, List.not_mem_nil, or_false] at hf; exact hf) k4
theorem iv_anew {h : Hp} {D : Nat → Int32} {n0 a b ti k : Nat} (I : IV h D) (hs0 : RStop h n0) (ha : a < n0) (hb : b < n0) (hab : a ≠ b) (hti : ti ≤ 140000) (hk1 : 1 ≤ k) (hk2 : k ≤ 2) : IV (F_X8_arrivalAnew h (nI a) (nI b) (nI ti) (nI k)).2 D := by
  obtain ⟨n0', hs0', w⟩ := world_of I.W I.R
  have e0 : n0' = n0 := nI_inj (by have := hs0'.1; omega) (by have := hs0.1; omega) (hs0'.2.1.symm.trans hs0.2.1)
  subst e0
  have h10 := hs0.1
  have c := seek_spec (nn := 4) w (small_of I.R hs0) ha (b := b) hti (by decide)
  obtain ⟨-, q⟩ := tryC I.R hs0 w ha hb hti hk1 hk2 (by decide) (by omega) c
  have okw : okW h (nI a) (nI b) (nI ti) := ⟨⟨okS_mk hs0.2.1 h10 ha, okS_mk hs0.2.1 h10 hb⟩, fun z => hab (nI_inj (by omega) (by omega) z), okR_mk (lo := 0) (hi := 140000) (by omega) hti (by decide)⟩
  have ok2 : okR (nI k) 1 2 := okR_mk (lo := 1) (hi := 2) hk1 hk2 (by decide)
  have eF : (F_X8_arrivalAnew h (nI a) (nI b) (nI ti) (nI k)).2 = (F_X6_tryAll h (nI a) (nI b) (nI ti) (nI k)).2 := by
    unfold F_X8_arrivalAnew
    rw [if_pos okw, if_pos ok2]
  rw [eF]
  exact I.fx q (by decide) (by decide)
