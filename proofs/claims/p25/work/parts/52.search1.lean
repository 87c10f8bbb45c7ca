/-! ===== own: least values, trips as the search sees them (out of whole) ===== -/
def MU (E E' : Nat → Int) (C : Nat → Int → Prop) : Prop := ∀ s, E' s ≤ E s ∧ (E' s = E s ∨ C s (E' s)) ∧ ∀ a, C s a → E' s ≤ a
theorem MU.rf {E : Nat → Int} {C : Nat → Int → Prop} (h : ∀ s a, ¬ C s a) : MU E E C := fun s => ⟨Int.le_refl _, .inl rfl, fun a q => absurd q (h s a)⟩
theorem MU.same {E E' : Nat → Int} {C C' : Nat → Int → Prop} (m : MU E E' C) (h : ∀ s a, C' s a ↔ C s a) : MU E E' C' := fun s => by
  obtain ⟨m1, m2, m3⟩ := m s
  exact ⟨m1, m2.imp id (fun q => (h _ _).mpr q), fun a q => m3 a ((h _ _).mp q)⟩
theorem MU.step {E0 E E' : Nat → Int} {C C' : Nat → Int → Prop} (m : MU E0 E C) (s0 : Nat) (a0 : Int) (h : ∀ s, E' s = if s = s0 then min (E s) a0 else E s) (hC : ∀ s a, C' s a ↔ (C s a ∨ (s = s0 ∧ a = a0))) : MU E0 E' C' := fun s => by
  obtain ⟨m1, m2, m3⟩ := m s
  have hs := h s
  by_cases q : s = s0
  · subst q
    rw [if_pos rfl] at hs
    refine ⟨by omega, ?_, fun a qa => ?_⟩
    · by_cases w : E s ≤ a0
      · have e : E' s = E s := by omega
        rw [e]
        exact m2.imp id (fun z => (hC _ _).mpr (.inl z))
      · have e : E' s = a0 := by omega
        rw [e]
        exact .inr ((hC _ _).mpr (.inr ⟨rfl, rfl⟩))
    · rcases (hC _ _).mp qa with z | ⟨_, z⟩
      · have := m3 a z
        omega
      · omega
  · rw [if_neg q] at hs
    rw [hs]
    refine ⟨m1, m2.imp id (fun z => (hC _ _).mpr (.inl z)), fun a qa => ?_⟩
    rcases (hC _ _).mp qa with z | ⟨z, _⟩
    · exact m3 a z
    · exact absurd z q
theorem MU.trans {E E' E'' : Nat → Int} {C C' D : Nat → Int → Prop} (m : MU E E' C) (m' : MU E' E'' C') (h : ∀ s a, D s a ↔ (C s a ∨ C' s a)) : MU E E'' D := fun s => by
  obtain ⟨m1, m2, m3⟩ := m s
  obtain ⟨n1, n2, n3⟩ := m' s
  refine ⟨by omega, ?_, fun a q => ?_⟩
  · rcases n2 with e | q
    · rw [e]
      exact m2.imp id (fun z => (h _ _).mpr (.inl z))
    · exact .inr ((h _ _).mpr (.inr q))
  · rcases (h _ _).mp q with z | z
    · have := m3 a z
      omega
    · exact n3 a z
def LO (N : Int) (Q : Int → Prop) (v : Int) : Prop := (v = N ∧ ∀ a, ¬ Q a) ∨ (Q v ∧ ∀ a, Q a → v ≤ a)
theorem LO.same {N : Int} {Q Q' : Int → Prop} {v : Int} (l : LO N Q v) (h : ∀ a, Q' a ↔ Q a) : LO N Q' v := by
  rcases l with ⟨e, z⟩ | ⟨q, z⟩
  · exact .inl ⟨e, fun a qa => z a ((h a).mp qa)⟩
  · exact .inr ⟨(h v).mpr q, fun a qa => z a ((h a).mp qa)⟩
theorem MU.lo {E E' : Nat → Int} {C : Nat → Int → Prop} {N : Int} {s : Nat} (m : MU E E' C) (h0 : E s = N) (hC : ∀ a, C s a → a < N) : LO N (C s) (E' s) := by
  obtain ⟨m1, m2, m3⟩ := m s
  rcases m2 with e | q
  · refine .inl ⟨e.trans h0, fun a qa => ?_⟩
    have := m3 a qa
    have := hC a qa
    omega
  · exact .inr ⟨q, m3⟩
def stN (h : Hp) (t p : Nat) : Nat := (xAI h 28 t p).toNatClampNeg
def lnN (h : Hp) (t : Nat) : Nat := (xFI h 810 t).toNatClampNeg
def dpI (h : Hp) (t d p : Nat) : Int := (F_X7_leaves h t (nI d) (nI p)).toInt
def arI (h : Hp) (t d p : Nat) : Int := (F_X7_reaches h t (nI d) (nI p)).toInt
def goN (h : Hp) (t d : Nat) : Prop := ¬ F_X7_goes h t (nI d) = 0
def World (h : Hp) (n0 : Nat) : Prop := n0 ≤ 10 ∧ xFI h 403 0 = nI n0 ∧ xLS h 11 ≤ 20 ∧ ∀ t, t < xLS h 11 → 1 ≤ lnN h t ∧ lnN h t ≤ 6 ∧ xFI h 810 t = nI (lnN h t) ∧
  (∀ p, p < lnN h t → F_X7_stopAt h t (nI p) = nI (stN h t p) ∧ stN h t p < n0) ∧
  ∀ d, d < 100 → goN h t d → (∀ p, p < lnN h t → 0 ≤ dpI h t d p ∧ dpI h t d p ≤ 200000) ∧ ∀ p, p < lnN h t → p ≠ 0 → 0 ≤ arI h t d p ∧ arI h t d p ≤ 200000 ∧ dpI h t d (p - 1) < arI h t d p ∧ arI h t d p ≤ dpI h t d p
theorem world_of {h : Hp} (W : CW h) (R : RC h) : ∃ n0, RStop h n0 ∧ World h n0 := by
  obtain ⟨⟨n0, hs, htr⟩, -⟩ := R
  refine ⟨n0, hs, hs.1, hs.2.1, W.t20, fun t ht => ?_⟩
  obtain ⟨-, -, -, ⟨len, st, lv, ar, r1, r2, r3, r5⟩, g, -⟩ := htr t ht
  have el : lnN h t = len := by unfold lnN; rw [r3, nI_clamp (by omega)]
  rw [el]
  refine ⟨r1, r2, r3, fun p hp => ?_, fun d hd hg => ?_⟩
  · obtain ⟨s1, s3, -⟩ := r5 p hp
    have e : stN h t p = st p := by
      have := hs.1
      unfold stN; rw [s1, nI_clamp (by omega)]
    unfold F_X7_stopAt
    rw [at_in h (n := 6) (by decide) rfl (by omega) (by decide), s1, e]
    exact ⟨rfl, s3⟩
  · obtain ⟨g3, g4⟩ := g d hd
    have hdl : xAI h 32 t d ≠ -1 := by
      intro q
      apply hg
      unfold F_X7_goes
      rw [at_in h (n := 100) (by decide) rfl hd (by decide), if_pos q]
      split <;> rfl
    have hd0 : ∃ dl : Nat, dl ≤ 600 ∧ xAI h 32 t d = nI dl := by
      have h0 : ¬ xAI h 32 t d < 0 := fun z => by
        rw [Int32.lt_iff_toInt_lt] at z
        have e0 : (0 : Int32).toInt = 0 := by decide
        have e1 : (-1 : Int32).toInt = -1 := by decide
        exact hdl (Int32.toInt_inj.mp (by omega))
      obtain ⟨j, hj, e⟩ := nI_of h0
      rw [e, nI_toInt hj] at g4
      exact ⟨j, by omega, e⟩
    obtain ⟨dl, hdl6, edl⟩ := hd0
    have eL : ∀ p, p < len → F_X7_leaves h t (nI d) (nI p) = nI (1440 * d + lv p + dl) := by
      intro p hp
      obtain ⟨-, -, s4, -⟩ := r5 p hp
      unfold F_X7_leaves
      rw [at_in h (n := 6) (by decide) rfl (by omega) (by decide), at_in h (n := 100) (by decide) rfl hd (by decide), s4, edl, show (1440 : Int32) = nI 1440 from rfl, nI_mul, nI_add, nI_add, Nat.mul_comm]
    have eR : ∀ p, p < len → p ≠ 0 → F_X7_reaches h t (nI d) (nI p) = nI (1440 * d + ar p + dl) := by
      intro p hp h0
      obtain ⟨-, -, -, -, s7⟩ := r5 p hp
      obtain ⟨u1, -⟩ := s7 h0
      unfold F_X7_reaches
      rw [at_in h (n := 6) (by decide) rfl (by omega) (by decide), at_in h (n := 100) (by decide) rfl hd (by decide), u1, edl, show (1440 : Int32) = nI 1440 from rfl, nI_mul, nI_add, nI_add, Nat.mul_comm]
    refine ⟨fun p hp => ?_, fun p hp h0 => ?_⟩
    · obtain ⟨-, -, -, s6, -⟩ := r5 p hp
      unfold dpI
      rw [eL p hp, nI_toInt (by omega)]
      omega
    · obtain ⟨-, -, -, s6, s7⟩ := r5 p hp
      obtain ⟨-, u3, u4⟩ := s7 h0
      have e1 := eL (p - 1) (by omega)
      unfold dpI arI
      rw [eL p hp, eR p hp h0, e1, nI_toInt (by omega), nI_toInt (by omega), nI_toInt (by omega)]
      omega
def Cand (h : Hp) (R : Nat → Int) (t d q s : Nat) (a : Int) : Prop := ∃ i j, i < j ∧ j < q ∧ R (stN h t i) ≤ dpI h t d i ∧ stN h t j = s ∧ arI h t d j = a
def CandT (h : Hp) (R : Nat → Int) (fd ld q s : Nat) (a : Int) : Prop := ∃ t d, t < q ∧ fd ≤ d ∧ d ≤ ld ∧ goN h t d ∧ Cand h R t d (lnN h t) s a
