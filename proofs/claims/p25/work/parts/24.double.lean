/-! ===== own: doubles that are numbers ===== -/
/-- a number of no more than 2^k -/
def MG (k : Nat) (x : UInt64) : Prop := ∃ s c q, FP.Core.decode FP.Core.b64 x.toNat = .fin s c q ∧ c * 2 ^ (q + 1074).toNat ≤ 2 ^ (k + 1074)
theorem mg_mono {a b : Nat} {x : UInt64} (h : MG a x) (hab : a ≤ b) : MG b x := by
  obtain ⟨s, c, q, e, hc⟩ := h
  exact ⟨s, c, q, e, Nat.le_trans hc (Nat.pow_le_pow_right (by decide) (by omega))⟩
theorem mq_min : FP.Core.b64.qmin = -1074 := by decide
theorem mq_mul {a b : Nat} (h : a ≤ b) (c : Nat) : a * c ≤ b * c := Nat.mul_le_mul_right c h
theorem mq_pow (i j : Nat) : 2 ^ i * 2 ^ j = 2 ^ (i + j) := (Nat.pow_add 2 i j).symm
/-- what rounds stays below a power of two -/
theorem mq_round {k A B : Nat} {e : Int} (s : Bool) (hB : 0 < B) (hk : k ≤ 1001) (he : -2148 ≤ e) (h : A * 2 ^ (e + 2148).toNat ≤ 2 ^ (k + 1074) * 2 ^ 1074 * B) :
    ∃ c q, FP.Core.roundRatio FP.Core.b64 s A B e = .fin s c q ∧ c * 2 ^ (q + 1074).toNat ≤ 2 ^ (k + 1074) := by
  have hV : FP.Core.fits FP.Core.b64 (.fin false (2 ^ 52) ((k : Int) - 52)) := by
    refine ⟨Nat.le_of_ble_eq_true rfl, ?_, ?_, .inr (Nat.le_of_ble_eq_true rfl)⟩
    · rw [mq_min]; omega
    · have : FP.Core.b64.qmax = 971 := by decide
      rw [this]; omega
  have zV : FP.Core.zmag FP.Core.b64 (.fin false (2 ^ 52) ((k : Int) - 52)) = 2 ^ (k + 1074) := by
    show 2 ^ 52 * 2 ^ ((k : Int) - 52 - FP.Core.b64.qmin).toNat = 2 ^ (k + 1074)
    rw [mq_min, mq_pow, show 52 + ((k : Int) - 52 - -1074).toNat = k + 1074 by omega]
  have z := FP.Core.zmag_roundRatio_le FP.Core.good_b64 (s := s) (A := A) (e := e) hB hV (fun q => FP.Core.Datum.noConfusion q) (e0 := -2148) (by rw [mq_min]; omega) he (by
    rw [zV, mq_min]
    show A * 2 ^ (e - -2148).toNat ≤ _
    rw [show (e - -2148).toNat = (e + 2148).toNat by omega, show ((-1074 : Int) - -2148).toNat = 1074 by omega]
    exact h)
  rw [zV] at z
  unfold FP.Core.roundRatio FP.Core.roundAt FP.Core.settle FP.Core.bound at z ⊢
  have top : ∀ t : Bool, ¬ FP.Core.zmag FP.Core.b64 (.inf t) ≤ 2 ^ (k + 1074) := by
    intro t q
    have q2 : FP.Core.b64.tails * 2 ^ (FP.Core.b64.exps - 2) ≤ 2 ^ (k + 1074) := q
    rw [show FP.Core.b64.tails = 2 ^ 52 from rfl, show FP.Core.b64.exps - 2 = 2046 by decide, mq_pow] at q2
    have := (Nat.pow_le_pow_iff_right (a := 2) (by decide)).mp q2
    omega
  have fin : ∀ (c : Nat) (q : Int), FP.Core.zmag FP.Core.b64 (.fin s c q) ≤ 2 ^ (k + 1074) → c * 2 ^ (q + 1074).toNat ≤ 2 ^ (k + 1074) := by
    intro c q hz
    have hz : c * 2 ^ (q - FP.Core.b64.qmin).toNat ≤ 2 ^ (k + 1074) := hz
    rw [mq_min, show (q - -1074).toNat = (q + 1074).toNat by omega] at hz
    exact hz
  by_cases h0 : A = 0
  · rw [if_pos h0] at z ⊢
    exact ⟨_, _, rfl, fin _ _ z⟩
  · rw [if_neg h0] at z ⊢
    generalize FP.Core.quantum FP.Core.b64 A B e = Q at z ⊢
    generalize FP.Core.nearest (FP.Core.unitsNum A e Q) (FP.Core.unitsDen B e Q) = C at z ⊢
    by_cases h1 : C < 2 ^ FP.Core.b64.p
    · rw [if_pos h1] at z ⊢
      by_cases h2 : Q ≤ FP.Core.b64.qmax
      · rw [if_pos h2] at z ⊢
        exact ⟨_, _, rfl, fin _ _ z⟩
      · rw [if_neg h2] at z
        exact absurd z (top s)
    · rw [if_neg h1] at z ⊢
      by_cases h2 : Q + 1 ≤ FP.Core.b64.qmax
      · rw [if_pos h2] at z ⊢
        exact ⟨_, _, rfl, fin _ _ z⟩
      · rw [if_neg h2] at z
        exact absurd z (top s)
/-- a datum that is a number, as bits -/
theorem mq_num {d : FP.Core.Datum} (hd : FP.Core.fits FP.Core.b64 d) (hn : d ≠ .nan) : vf_n64 (FP.Core.of64 d) := by
  have h1 := FP.Core.val64_of64 hd
  have h2 : ¬ FP.Core.infBits FP.Core.b64 < FP.Core.mag FP.Core.b64 (FP.Core.of64 d).toNat := fun q => hn (h1.symm.trans ((FP.Core.decode_nan _).mpr q))
  unfold vf_n64
  rw [UInt64.le_iff_toNat_le, UInt64.toNat_and]
  have h3 : FP.Core.mag FP.Core.b64 (FP.Core.of64 d).toNat = (FP.Core.of64 d).toNat % 2 ^ 63 := rfl
  have h4 : FP.Core.infBits FP.Core.b64 = 9218868437227405312 := by decide
  rw [h3, h4] at h2
  have h5 : (9223372036854775807 : UInt64).toNat = 2 ^ 63 - 1 := by decide
  have h6 : (9218868437227405312 : UInt64).toNat = 9218868437227405312 := by decide
  rw [h5, h6, Nat.and_two_pow_sub_one_eq_mod]
  omega
theorem mq_dec {x : UInt64} {k : Nat} (hx : MG k x) : ∃ s c q, FP.Core.val64 x = .fin s c q ∧ c * 2 ^ (q + 1074).toNat ≤ 2 ^ (k + 1074) ∧ -1074 ≤ q ∧ q ≤ 971 ∧ c < 2 ^ 53 := by
  obtain ⟨s, c, q, e, h⟩ := hx
  have hf := FP.Core.val64_fits x
  have e' : FP.Core.val64 x = .fin s c q := e
  rw [e'] at hf
  obtain ⟨f1, f2, f3, -⟩ := hf
  rw [mq_min] at f2
  have : FP.Core.b64.qmax = 971 := by decide
  rw [this] at f3
  exact ⟨s, c, q, e', h, f2, f3, f1⟩
/-- a rounded number within bounds, as bits -/
theorem mq_out {k A B : Nat} {e : Int} (s : Bool) (hB : 0 < B) (hk : k ≤ 1001) (he : -2148 ≤ e) (h : A * 2 ^ (e + 2148).toNat ≤ 2 ^ (k + 1074) * 2 ^ 1074 * B) :
    vf_n64 (FP.Core.of64 (FP.Core.roundRatio FP.Core.b64 s A B e)) ∧ MG k (FP.Core.of64 (FP.Core.roundRatio FP.Core.b64 s A B e)) := by
  have hf := FP.Core.roundRatio_fits FP.Core.good_b64 s A hB e
  obtain ⟨c, q, e1, hc⟩ := mq_round s hB hk he h
  refine ⟨mq_num hf (by rw [e1]; exact fun z => FP.Core.Datum.noConfusion z), s, c, q, ?_, hc⟩
  exact (FP.Core.val64_of64 hf).trans e1
theorem mg_mul {a b : Nat} {x y : UInt64} (hx : MG a x) (hy : MG b y) (hab : a + b ≤ 1000) : vf_n64 (FP.dmul x y) ∧ MG (a + b) (FP.dmul x y) := by
  obtain ⟨s, c, q, e1, h1, q1, -⟩ := mq_dec hx
  obtain ⟨t, d, r, e2, h2, r1, -⟩ := mq_dec hy
  have e : FP.dmul x y = FP.Core.of64 (FP.Core.roundRatio FP.Core.b64 (s != t) (c * d) 1 (q + r)) := by
    show FP.Core.of64 (FP.Core.round FP.Core.b64 (FP.Core.exactProduct (FP.Core.val64 x) (FP.Core.val64 y))) = _
    rw [e1, e2]
    rfl
  rw [e]
  refine mq_out _ (by decide) (by omega) (by omega) ?_
  rw [Nat.mul_one]
  have e3 : (q + r + 2148).toNat = (q + 1074).toNat + (r + 1074).toNat := by omega
  rw [e3, Nat.pow_add]
  calc c * d * (2 ^ (q + 1074).toNat * 2 ^ (r + 1074).toNat) = (c * 2 ^ (q + 1074).toNat) * (d * 2 ^ (r + 1074).toNat) := by ac_rfl
    _ ≤ 2 ^ (a + 1074) * 2 ^ (b + 1074) := Nat.mul_le_mul h1 h2
    _ = 2 ^ (a + b + 1074) * 2 ^ 1074 := by rw [mq_pow, mq_pow, show a + 1074 + (b + 1074) = a + b + 1074 + 1074 by omega]
theorem mg_add {a : Nat} {x y : UInt64} (hx : MG a x) (hy : MG a y) (ha : a ≤ 1000) : vf_n64 (FP.dadd x y) ∧ MG (a + 1) (FP.dadd x y) := by
  obtain ⟨s, c, q, e1, h1, q1, -⟩ := mq_dec hx
  obtain ⟨t, d, r, e2, h2, r1, -⟩ := mq_dec hy
  have e : FP.dadd x y = FP.Core.of64 (FP.Core.roundRatio FP.Core.b64 (FP.Core.sumSign s t (FP.Core.sumUnits s c q t d r (min q r))) (FP.Core.sumUnits s c q t d r (min q r)).natAbs 1 (min q r)) := by
    show FP.Core.of64 (FP.Core.round FP.Core.b64 (FP.Core.exactSum (FP.Core.val64 x) (FP.Core.val64 y))) = _
    rw [e1, e2]
    rfl
  rw [e]
  refine mq_out _ (by decide) (by omega) (by omega) ?_
  rw [Nat.mul_one]
  have sg : ∀ (s : Bool) (n : Nat), (FP.Core.signed s n).natAbs = n := by
    intro s n
    unfold FP.Core.signed
    split <;> omega
  have hs : (FP.Core.sumUnits s c q t d r (min q r)).natAbs ≤ c * 2 ^ (q - min q r).toNat + d * 2 ^ (r - min q r).toNat := by
    unfold FP.Core.sumUnits
    refine Nat.le_trans (Int.natAbs_add_le _ _) ?_
    rw [sg, sg]
    exact Nat.le_refl _
  have e3 : (q - min q r).toNat + (min q r + 2148).toNat = (q + 1074).toNat + 1074 := by omega
  have e4 : (r - min q r).toNat + (min q r + 2148).toNat = (r + 1074).toNat + 1074 := by omega
  calc (FP.Core.sumUnits s c q t d r (min q r)).natAbs * 2 ^ (min q r + 2148).toNat ≤ (c * 2 ^ (q - min q r).toNat + d * 2 ^ (r - min q r).toNat) * 2 ^ (min q r + 2148).toNat := Nat.mul_le_mul_right _ hs
    _ = c * 2 ^ (q + 1074).toNat * 2 ^ 1074 + d * 2 ^ (r + 1074).toNat * 2 ^ 1074 := by rw [Nat.add_mul, Nat.mul_assoc, Nat.mul_assoc, mq_pow, mq_pow, e3, e4, Nat.mul_assoc, Nat.mul_assoc, mq_pow, mq_pow]
    _ ≤ 2 ^ (a + 1074) * 2 ^ 1074 + 2 ^ (a + 1074) * 2 ^ 1074 := Nat.add_le_add (Nat.mul_le_mul_right _ h1) (Nat.mul_le_mul_right _ h2)
    _ = 2 ^ (a + 1 + 1074) * 2 ^ 1074 := by rw [← Nat.add_mul, show a + 1 + 1074 = a + 1074 + 1 by omega, Nat.pow_succ 2 (a + 1074), Nat.mul_two]
/-- a whole number's magnitude -/
theorem mq_int (y : Int32) : ∃ s c q, FP.Core.val64 (FP.i2d y) = .fin s c q ∧ c * 2 ^ (q + 1074).toNat ≤ 2 ^ (31 + 1074) ∧ -1074 ≤ q ∧ q ≤ 971 ∧ (¬ y = 0 → 2 ^ 1074 ≤ c * 2 ^ (q + 1074).toNat) := by
  have e : FP.i2d y = FP.Core.of64 (FP.Core.roundRatio FP.Core.b64 (decide (y.toInt < 0)) y.toInt.natAbs 1 0) := rfl
  have hb : y.toInt.natAbs ≤ 2 ^ 31 := by
    have h1 := Int32.toInt_lt y
    have h2 := Int32.le_toInt y
    omega
  have hm := mq_out (k := 31) (decide (y.toInt < 0)) (A := y.toInt.natAbs) (B := 1) (e := 0) (by decide) (by decide) (by decide) (by
    rw [Nat.mul_one, show ((0 : Int) + 2148).toNat = 2148 by decide]
    calc y.toInt.natAbs * 2 ^ 2148 ≤ 2 ^ 31 * 2 ^ 2148 := Nat.mul_le_mul_right _ hb
      _ = 2 ^ (31 + 1074) * 2 ^ 1074 := by rw [mq_pow, mq_pow])
  rw [← e] at hm
  obtain ⟨s, c, q, e1, h1, q1, q2, -⟩ := mq_dec hm.2
  refine ⟨s, c, q, e1, h1, q1, q2, fun hy => ?_⟩
  have hf := FP.Core.roundRatio_fits FP.Core.good_b64 (decide (y.toInt < 0)) y.toInt.natAbs (B := 1) (by decide) 0
  have hv := FP.Core.val64_of64 hf
  rw [← e, e1] at hv
  have hV : FP.Core.fits FP.Core.b64 (.fin false (2 ^ 52) (-52)) := by
    refine ⟨Nat.le_of_ble_eq_true rfl, ?_, ?_, .inr (Nat.le_of_ble_eq_true rfl)⟩
    · rw [mq_min]; omega
    · have : FP.Core.b64.qmax = 971 := by decide
      rw [this]; omega
  have zV : FP.Core.zmag FP.Core.b64 (.fin false (2 ^ 52) (-52)) = 2 ^ 1074 := by
    show 2 ^ 52 * 2 ^ ((-52 : Int) - FP.Core.b64.qmin).toNat = 2 ^ 1074
    rw [mq_min, mq_pow, show 52 + ((-52 : Int) - -1074).toNat = 1074 by omega]
  have hy0 : 1 ≤ y.toInt.natAbs := by
    have : y.toInt ≠ 0 := fun z => hy (Int32.toInt_inj.mp z)
    omega
  have z := FP.Core.zmag_roundRatio_ge FP.Core.good_b64 (s := decide (y.toInt < 0)) (A := y.toInt.natAbs) (B := 1) (e := 0) (by decide) hV (e0 := -1074) (by rw [mq_min]; omega) (by decide) (by
    rw [zV, mq_min, Nat.mul_one]
    show 2 ^ 1074 * 2 ^ ((-1074 : Int) - -1074).toNat ≤ y.toInt.natAbs * 2 ^ ((0 : Int) - -1074).toNat
    rw [show ((-1074 : Int) - -1074).toNat = 0 by decide, show ((0 : Int) - -1074).toNat = 1074 by decide, Nat.pow_zero, Nat.mul_one]
    exact Nat.le_mul_of_pos_left _ hy0)
  rw [zV, ← hv] at z
  have z : 2 ^ 1074 ≤ c * 2 ^ (q - FP.Core.b64.qmin).toNat := z
  rw [mq_min, show (q - -1074).toNat = (q + 1074).toNat by omega] at z
  exact z
theorem mg_i2d (x : Int32) : MG 31 (FP.i2d x) := by
  obtain ⟨s, c, q, e, h, -⟩ := mq_int x
  exact ⟨s, c, q, e, h⟩
theorem mg_div {a : Nat} {x : UInt64} {y : Int32} (hx : MG a x) (hy : ¬ y = 0) (ha : a ≤ 1000) : vf_n64 (FP.ddiv x (FP.i2d y)) ∧ MG a (FP.ddiv x (FP.i2d y)) := by
  obtain ⟨s, c, q, e1, h1, q1, -⟩ := mq_dec hx
  obtain ⟨t, d, r, e2, h2, r1, r2, h3⟩ := mq_int y
  have h3 := h3 hy
  have hd : 0 < d := Nat.pos_of_ne_zero fun z => by
    rw [z, Nat.zero_mul] at h3
    exact absurd h3 (Nat.not_le.mpr (Nat.two_pow_pos _))
  have e : FP.ddiv x (FP.i2d y) = FP.Core.of64 (FP.Core.roundRatio FP.Core.b64 (s != t) c d (q - r)) := by
    show FP.Core.of64 (FP.Core.quotient FP.Core.b64 (FP.Core.val64 x) (FP.Core.val64 (FP.i2d y))) = _
    rw [e1, e2]
    show FP.Core.of64 (if d = 0 then _ else _) = _
    rw [if_neg (by omega)]
  rw [e]
  refine mq_out _ hd (by omega) (by omega) ?_
  have e3 : (q - r + 2148).toNat + (r + 1074).toNat = (q + 1074).toNat + 1074 + 1074 := by omega
  refine Nat.le_of_mul_le_mul_right (c := 2 ^ (r + 1074).toNat) ?_ (Nat.two_pow_pos _)
  calc c * 2 ^ (q - r + 2148).toNat * 2 ^ (r + 1074).toNat = c * 2 ^ (q + 1074).toNat * 2 ^ 1074 * 2 ^ 1074 := by rw [Nat.mul_assoc, mq_pow, e3, Nat.mul_assoc, Nat.mul_assoc, mq_pow, mq_pow, Nat.add_assoc]
    _ ≤ 2 ^ (a + 1074) * (d * 2 ^ (r + 1074).toNat) * 2 ^ 1074 := Nat.mul_le_mul_right _ (Nat.mul_le_mul h1 h3)
    _ = 2 ^ (a + 1074) * 2 ^ 1074 * d * 2 ^ (r + 1074).toNat := by
      generalize (2 : Nat) ^ 1074 = T
      generalize 2 ^ (a + 1074) = A1
      generalize 2 ^ (r + 1074).toNat = P
      ac_rfl
theorem mg_zero : MG 0 FP.dconst0 := ⟨false, 0, -1074, by decide +kernel, by rw [Nat.zero_mul]; exact Nat.zero_le _⟩
theorem mg_one : MG 0 FP.dconst1 := ⟨false, 2 ^ 52, -52, by decide +kernel, by rw [mq_pow, show 52 + ((-52 : Int) + 1074).toNat = 0 + 1074 by decide]; exact Nat.le_refl _⟩
theorem cy_ten : (4621819117588971520 : UInt64) = FP.i2d 10 := by decide +kernel
theorem cy_fifteen : (4624633867356078080 : UInt64) = FP.i2d 15 := by decide +kernel
theorem cy_ddivN {x y : Int32} (hy : ¬ y = 0) : vf_n64 (FP.ddiv (FP.i2d x) (FP.i2d y)) := (mg_div (mg_i2d x) hy (by decide)).1
/-- a sum or product that may grow n times as often as R is long -/
def DS (n : Nat) (c : UInt64) (R : List Nat) : Prop := ∃ k, 62 ≤ k ∧ MG k c ∧ k + n * R.length ≤ 900
theorem ds_mul {c y : UInt64} {r : Nat} {R : List Nat} (h : DS 31 c (r :: R)) (hy : MG 31 y) : vf_n64 (FP.dmul c y) ∧ DS 31 (FP.dmul c y) R := by
  obtain ⟨k, h1, h2, h3⟩ := h
  rw [List.length_cons] at h3
  obtain ⟨a, b⟩ := mg_mul h2 hy (by omega)
  exact ⟨a, k + 31, by omega, b, by omega⟩
theorem ds_add {c y : UInt64} {r : Nat} {R : List Nat} (h : DS 1 c (r :: R)) (hy : MG 62 y) : vf_n64 (FP.dadd c y) ∧ DS 1 (FP.dadd c y) R := by
  obtain ⟨k, h1, h2, h3⟩ := h
  rw [List.length_cons] at h3
  obtain ⟨a, b⟩ := mg_add h2 (mg_mono hy h1) (by omega)
  exact ⟨a, k + 1, by omega, b, by omega⟩
theorem ds_one {R : List Nat} (hR : R.length ≤ 5) : DS 31 FP.dconst1 R := ⟨62, by omega, mg_mono mg_one (by omega), by omega⟩
theorem ds_zero {R : List Nat} (hR : R.length ≤ 5) : DS 1 FP.dconst0 R := ⟨62, by omega, mg_mono mg_zero (by omega), by omega⟩
