/-! ===== own: doubles from 0 to 1, and their order ===== -/
/-- a number from 0 to 1 -/
def UN (x : UInt64) : Prop := ∃ c q, FP.Core.val64 x = .fin false c q ∧ c * 2 ^ (q + 1074).toNat ≤ 2 ^ 1074
theorem UN.mg {x : UInt64} (h : UN x) : MG 0 x := by
  obtain ⟨c, q, e, hc⟩ := h
  exact ⟨false, c, q, e, by rw [Nat.zero_add]; exact hc⟩
theorem un_one : UN FP.dconst1 := ⟨2 ^ 52, -52, by decide +kernel, by rw [mq_pow, show 52 + ((-52 : Int) + 1074).toNat = 1074 by decide]; exact Nat.le_refl _⟩
theorem un_out {A B : Nat} {e : Int} (hB : 0 < B) (he : -2148 ≤ e) (h : A * 2 ^ (e + 2148).toNat ≤ 2 ^ 1074 * 2 ^ 1074 * B) : UN (FP.Core.of64 (FP.Core.roundRatio FP.Core.b64 false A B e)) := by
  have hf := FP.Core.roundRatio_fits FP.Core.good_b64 false A hB e
  obtain ⟨c, q, e1, hc⟩ := mq_round (k := 0) false hB (by omega) he (by rw [Nat.zero_add]; exact h)
  rw [Nat.zero_add] at hc
  exact ⟨c, q, (FP.Core.val64_of64 hf).trans e1, hc⟩
theorem un_low {x : UInt64} {s : Bool} {c : Nat} {q : Int} (e : FP.Core.val64 x = .fin s c q) : -1074 ≤ q := by
  have hf := FP.Core.val64_fits x
  rw [e] at hf
  obtain ⟨-, f2, -⟩ := hf
  rw [mq_min] at f2
  exact f2
theorem un_mul {x y : UInt64} (hx : UN x) (hy : UN y) : UN (FP.dmul x y) := by
  obtain ⟨c, q, e1, h1⟩ := hx
  obtain ⟨d, r, e2, h2⟩ := hy
  have q1 := un_low e1
  have r1 := un_low e2
  have e : FP.dmul x y = FP.Core.of64 (FP.Core.roundRatio FP.Core.b64 false (c * d) 1 (q + r)) := by
    show FP.Core.of64 (FP.Core.round FP.Core.b64 (FP.Core.exactProduct (FP.Core.val64 x) (FP.Core.val64 y))) = _
    rw [e1, e2]
    rfl
  rw [e]
  refine un_out (by decide) (by omega) ?_
  rw [Nat.mul_one]
  have e3 : (q + r + 2148).toNat = (q + 1074).toNat + (r + 1074).toNat := by omega
  rw [e3, Nat.pow_add]
  calc c * d * (2 ^ (q + 1074).toNat * 2 ^ (r + 1074).toNat) = (c * 2 ^ (q + 1074).toNat) * (d * 2 ^ (r + 1074).toNat) := by ac_rfl
    _ ≤ 2 ^ 1074 * 2 ^ 1074 := Nat.mul_le_mul h1 h2
def smB (n : Nat) : Bool := match FP.Core.val64 (FP.i2d (nI n)) with
  | .fin false c q => decide (q ≤ 0) && decide (c = n * 2 ^ (-q).toNat)
  | _ => false
/-- a small whole number, exactly -/
theorem small_val : ∀ n : Nat, n < 32 → ∃ c q, FP.Core.val64 (FP.i2d (nI n)) = .fin false c q ∧ c * 2 ^ (q + 1074).toNat = n * 2 ^ 1074 := by
  intro n hn
  have key : ∀ n : Fin 32, smB n.1 = true := by decide +kernel
  have k := key ⟨n, hn⟩
  unfold smB at k
  split at k
  · rename_i c q e
    have k3 := of_decide_eq_true ((Bool.and_eq_true _ _).mp k).1
    have k2 := of_decide_eq_true ((Bool.and_eq_true _ _).mp k).2
    have low := un_low e
    refine ⟨c, q, e, ?_⟩
    rw [k2, Nat.mul_assoc, mq_pow, show (-q).toNat + (q + 1074).toNat = 1074 by omega]
  · exact absurd k (by decide)
theorem un_div {a b : Nat} (hab : a ≤ b) (hb : b ≠ 0) (h32 : b < 32) : UN (FP.ddiv (FP.i2d (nI a)) (FP.i2d (nI b))) := by
  obtain ⟨c, q, e1, h1⟩ := small_val a (by omega)
  obtain ⟨d, r, e2, h2⟩ := small_val b h32
  have q1 := un_low e1
  have r1 := un_low e2
  have hd : 0 < d := Nat.pos_of_ne_zero fun z => by
    rw [z, Nat.zero_mul] at h2
    have : 0 < b * 2 ^ 1074 := Nat.mul_pos (Nat.pos_of_ne_zero hb) (Nat.two_pow_pos _)
    omega
  have e : FP.ddiv (FP.i2d (nI a)) (FP.i2d (nI b)) = FP.Core.of64 (FP.Core.roundRatio FP.Core.b64 false c d (q - r)) := by
    show FP.Core.of64 (FP.Core.quotient FP.Core.b64 (FP.Core.val64 (FP.i2d (nI a))) (FP.Core.val64 (FP.i2d (nI b)))) = _
    rw [e1, e2]
    show FP.Core.of64 (if d = 0 then _ else _) = _
    rw [if_neg (by omega)]
    rfl
  have hr9 : r ≤ 971 := by
    have hf := FP.Core.val64_fits (FP.i2d (nI b))
    rw [e2] at hf
    obtain ⟨-, -, f3, -⟩ := hf
    have : FP.Core.b64.qmax = 971 := by decide
    omega
  rw [e]
  refine un_out hd (by omega) ?_
  have e3 : (q - r + 2148).toNat + (r + 1074).toNat = (q + 1074).toNat + 1074 + 1074 := by omega
  refine Nat.le_of_mul_le_mul_right (c := 2 ^ (r + 1074).toNat) ?_ (Nat.two_pow_pos _)
  calc c * 2 ^ (q - r + 2148).toNat * 2 ^ (r + 1074).toNat = c * 2 ^ (q + 1074).toNat * 2 ^ 1074 * 2 ^ 1074 := by rw [Nat.mul_assoc, mq_pow, e3, Nat.mul_assoc, Nat.mul_assoc, mq_pow, mq_pow, Nat.add_assoc]
    _ ≤ (d * 2 ^ (r + 1074).toNat) * 2 ^ 1074 * 2 ^ 1074 := Nat.mul_le_mul_right _ (Nat.mul_le_mul_right _ (by rw [h1, h2]; exact Nat.mul_le_mul_right _ hab))
    _ = 2 ^ 1074 * 2 ^ 1074 * d * 2 ^ (r + 1074).toNat := by
      generalize (2 : Nat) ^ 1074 = T
      generalize 2 ^ (r + 1074).toNat = P
      ac_rfl
theorem mg_nn {k : Nat} {x : UInt64} (h : MG k x) : FP.Core.val64 x ≠ .nan := by
  obtain ⟨s, c, q, e, -⟩ := h
  have e' : FP.Core.val64 x = .fin s c q := e
  rw [e']
  exact fun z => FP.Core.Datum.noConfusion z
/-- a number's place in the order -/
def ZV (x : UInt64) : Int := FP.Core.zval FP.Core.b64 (FP.Core.val64 x)
def NN (x : UInt64) : Prop := FP.Core.val64 x ≠ .nan
theorem cmp_zv {x y : UInt64} (hx : NN x) (hy : NN y) : FP.dcmp x y = some (compare (ZV x) (ZV y)) := FP.Core.dcmp_zval hx hy
theorem dge {x y : UInt64} {op : CmpOp} (hx : NN x) (hy : NN y) (h : ZV y ≤ ZV x) : ¬ Op.cmpValue (FP.dcmp x y) op < 0 := by
  rw [cmp_zv hx hy]
  rcases hc : compare (ZV x) (ZV y) with _ | _ | _
  · rw [FP.Core.compare_lt_iff] at hc
    omega
  · exact (by decide : ¬ (0 : Int32) < 0)
  · exact (by decide : ¬ (1 : Int32) < 0)
theorem dle {x y : UInt64} {op : CmpOp} (hx : NN x) (hy : NN y) (h : ZV x ≤ ZV y) : ¬ 0 < Op.cmpValue (FP.dcmp x y) op := by
  rw [cmp_zv hx hy]
  rcases hc : compare (ZV x) (ZV y) with _ | _ | _
  · exact (by decide : ¬ (0 : Int32) < -1)
  · exact (by decide : ¬ (0 : Int32) < 0)
  · rw [FP.Core.compare_gt_iff] at hc
    omega
theorem dsame {x : UInt64} {op : CmpOp} (hx : NN x) : Op.cmpValue (FP.dcmp x x) op = 0 := by
  rw [cmp_zv hx hx, (FP.Core.compare_eq_iff _ _).mpr rfl]
  rfl
theorem dlt_iff {x y : UInt64} {op : CmpOp} (hx : NN x) (hy : NN y) : Op.cmpValue (FP.dcmp x y) op < 0 ↔ ZV x < ZV y := by
  constructor
  · intro h
    exact Int.not_le.mp fun q => dge hx hy q h
  · intro h
    rw [cmp_zv hx hy, (FP.Core.compare_lt_iff _ _).mpr h]
    exact (by decide : (-1 : Int32) < 0)
theorem un_nn {x : UInt64} (h : UN x) : NN x := mg_nn h.mg
theorem zv_fin {x : UInt64} {c : Nat} {q : Int} (e : FP.Core.val64 x = .fin false c q) : ZV x = ((c * 2 ^ (q + 1074).toNat : Nat) : Int) := by
  unfold ZV
  rw [e]
  show ((c * 2 ^ (q - FP.Core.b64.qmin).toNat : Nat) : Int) = _
  rw [mq_min, show (q - -1074).toNat = (q + 1074).toNat by omega]
theorem zv_one : ZV FP.dconst1 = ((2 ^ 1074 : Nat) : Int) := by
  rw [zv_fin (c := 2 ^ 52) (q := -52) (by decide +kernel), mq_pow, show 52 + ((-52 : Int) + 1074).toNat = 1074 by decide]
theorem zv_zero : ZV FP.dconst0 = 0 := by
  rw [zv_fin (c := 0) (q := -1074) (by decide +kernel), Nat.zero_mul]
  rfl
theorem nn_zero : NN FP.dconst0 := mg_nn mg_zero
theorem un_zv {x : UInt64} (h : UN x) : ZV FP.dconst0 ≤ ZV x ∧ ZV x ≤ ZV FP.dconst1 := by
  obtain ⟨c, q, e, hc⟩ := h
  rw [zv_zero, zv_one, zv_fin e]
  exact ⟨Int.natCast_nonneg _, Int.ofNat_le.mpr hc⟩
