/-! ===== own: the reference's places are in bounds ===== -/
theorem vin_mono {x : Int32} {a n : Nat} (h : vp_in x a) (hn : a ≤ n) : vp_in x n := by
  rw [vp_in_iff] at h ⊢
  omega
theorem vin_lit {n : Nat} (h : n < 2147483647) : vp_in (nI n) (n + 1) := vp_in_nI (Nat.lt_succ_self n) (by omega)
theorem vin_lt {v N : Nat} {X : Int32} (hv : v < 2147483648) (h : ¬ X ≤ nI v) (hX : vp_in X (N + 1)) : vp_in (nI v) N := by
  rw [vp_in_iff] at hX
  rw [Int32.le_iff_toInt_le, nI_toInt hv] at h
  rw [vp_in_iff, nI_toInt hv]
  omega
theorem vin_add {x y : Int32} {a b : Nat} (hx : vp_in x a) (hy : vp_in y b) (h : a + b ≤ 10000) : vp_in (x + y) (a + b - 1) := by
  obtain ⟨i, hi, rfl⟩ := vp_in_of hx (by omega)
  obtain ⟨j, hj, rfl⟩ := vp_in_of hy (by omega)
  rw [nI_add]
  exact vp_in_nI (by omega) (by omega)
theorem nI_mul (a b : Nat) : nI a * nI b = nI (a * b) := (Int32.ofNat_mul a b).symm
theorem vin_mul {c : Nat} {x : Int32} {a : Nat} (hx : vp_in x a) (h : c * a ≤ 10000 ∧ c ≤ 10000) : vp_in (nI c * x) (c * (a - 1) + 1) := by
  by_cases ha : a < 2147483648
  · obtain ⟨i, hi, rfl⟩ := vp_in_of hx ha
    rw [nI_mul]
    have : c * i ≤ c * (a - 1) := Nat.mul_le_mul_left _ (by omega)
    have h3 : c * (a - 1) ≤ c * a := Nat.mul_le_mul_left _ (by omega)
    exact vp_in_nI (by omega) (by omega)
  · have hc : c = 0 := by
      rcases Nat.eq_zero_or_pos c with q | q
      · exact q
      · have := Nat.mul_le_mul_right a q
        omega
    subst hc
    have e : nI 0 * x = nI 0 := by rw [show nI 0 = 0 from rfl, Int32.zero_mul]
    rw [e]
    exact vp_in_nI (by omega) (by omega)
theorem vin_lin {c : Nat} {x y : Int32} {a : Nat} (hx : vp_in x a) (hy : vp_in y c) (h : c * a ≤ 10000 ∧ a ≤ 10000 ∧ c ≤ 10000) : vp_in (nI c * x + y) (c * a) := by
  obtain ⟨i, hi, rfl⟩ := vp_in_of hx (by omega)
  obtain ⟨j, hj, rfl⟩ := vp_in_of hy (by omega)
  rw [nI_mul, nI_add]
  have : c * (i + 1) ≤ c * a := Nat.mul_le_mul_left _ (by omega)
  rw [Nat.mul_add, Nat.mul_one] at this
  exact vp_in_nI (by omega) (by omega)
def dm_a : List (Nat × Nat) := [(47, 10), (46, 7), (52, 31), (43, 3), (59, 20), (60, 100), (61, 6), (62, 6), (67, 5), (71, 20), (72, 100), (73, 6), (74, 6)]
def dm_f : List (Nat × Nat) := [(1000, 11), (1003, 21), (1031, 31), (1021, 5)]
/-- the reference's rows hold places -/
def DM (h : Hp) : Prop := (∀ s b, (s, b) ∈ dm_a → ∀ j, vp_in (xAI h s 0 j) b) ∧ ∀ f b, (f, b) ∈ dm_f → vp_in (xFI h f 0) b
theorem DM.ai {h : Hp} (D : DM h) {s b : Nat} (hs : (s, b) ∈ dm_a) (j : Nat) : vp_in (xAI h s 0 j) b := D.1 s b hs j
theorem DM.fi {h : Hp} (D : DM h) {f b : Nat} (hf : (f, b) ∈ dm_f) : vp_in (xFI h f 0) b := D.2 f b hf
theorem DM.put {h : Hp} (D : DM h) {s i j : Nat} {v : Int32} (hs : ∀ q ∈ dm_a, q.1 ≠ s) : DM (sAI h s i j v) := by
  refine ⟨fun s' b hs' j' => ?_, D.2⟩
  show vp_in (if s' = s ∧ 0 = i ∧ j' = j then v else h.2.2.1 s' 0 j') b
  rw [if_neg (fun q => hs _ hs' q.1)]
  exact D.1 s' b hs' j'
theorem DM.putV {h : Hp} (D : DM h) {s b i j : Nat} {v : Int32} (hs : ∀ q ∈ dm_a, q.1 = s → b ≤ q.2) (hv : vp_in v b) : DM (sAI h s i j v) := by
  refine ⟨fun s' b' hs' j' => ?_, D.2⟩
  show vp_in (if s' = s ∧ 0 = i ∧ j' = j then v else h.2.2.1 s' 0 j') b'
  by_cases c : s' = s ∧ 0 = i ∧ j' = j
  · rw [if_pos c]
    exact vin_mono hv (hs _ hs' c.1)
  · rw [if_neg c]
    exact D.1 s' b' hs' j'
theorem DM.fput {h : Hp} (D : DM h) {f i : Nat} {v : Int32} (hf : ∀ q ∈ dm_f, q.1 ≠ f) : DM (sFI h f i v) := by
  refine ⟨D.1, fun f' b hf' => ?_⟩
  show vp_in (if f' = f ∧ 0 = i then v else h.1 f' 0) b
  rw [if_neg (fun q => hf _ hf' q.1)]
  exact D.2 f' b hf'
theorem DM.fputV {h : Hp} (D : DM h) {f b i : Nat} {v : Int32} (hf : ∀ q ∈ dm_f, q.1 = f → b ≤ q.2) (hv : vp_in v b) : DM (sFI h f i v) := by
  refine ⟨D.1, fun f' b' hf' => ?_⟩
  show vp_in (if f' = f ∧ 0 = i then v else h.1 f' 0) b'
  by_cases c : f' = f ∧ 0 = i
  · rw [if_pos c]
    exact vin_mono hv (hf _ hf' c.1)
  · rw [if_neg c]
    exact D.2 f' b' hf'
/-- what a call of the reference leaves -/
def MP (h h' : Hp) : Prop := SR h h' ∧ DM h'
theorem vin_ne {x : Int32} {n : Nat} (hx : vp_in x (n + 1)) (h : ¬ x = nI n) (hn : n < 2147483647) : vp_in x n := by
  obtain ⟨j, hj, rfl⟩ := vp_in_of hx (by omega)
  have : j ≠ n := fun e => h (by rw [e])
  exact vp_in_nI (by omega) (by omega)
theorem vin_le {v N : Nat} {X : Int32} (hv : v < 2147483648) (h : ¬ X < nI v) (hX : vp_in X N) : vp_in (nI v) N := by
  rw [vp_in_iff] at hX
  rw [Int32.lt_iff_toInt_lt, nI_toInt hv] at h
  rw [vp_in_iff, nI_toInt hv]
  omega
theorem vin_dec {v N : Nat} (hv : v < 2147483648) (h1 : 1 ≤ v) (h : vp_in (nI v) N) : vp_in (nI v - 1) (N - 1) := by
  obtain ⟨k, rfl⟩ : ∃ k, v = k + 1 := ⟨v - 1, by omega⟩
  rw [nI_pred]
  rw [vp_in_iff, nI_toInt hv] at h
  rw [vp_in_iff, nI_toInt (by omega)]
  omega
theorem vin_int {x : Int32} {n : Nat} (h : vp_in x n) (hn : n ≤ 1000000) : x.toInt < 2147483647 := by
  rw [vp_in_iff] at h
  omega
theorem cy_upl {v x : Int32} (hb : ¬ x < v) (hx : x.toInt < 2147483647) : (2147483647 - (v + 1).toInt).toNat < (2147483647 - v.toInt).toNat := by
  rw [Int32.lt_iff_toInt_lt] at hb
  have e : (v + 1).toInt = v.toInt + 1 := by
    have h2 := Int32.le_toInt v
    rw [Int32.toInt_add, show (1 : Int32).toInt = 1 by decide]
    refine Int.bmod_eq_of_le ?_ ?_ <;> omega
  rw [e]
  omega
theorem day_lt (ti : Int32) : (ti / 1440 + 1 : Int32).toInt < 2147483647 := by
  have h1 := Int32.toInt_lt ti
  have h2 := Int32.le_toInt ti
  have e0 : (1440 : Int32).toInt = 1440 := by decide
  have e1 : (1 : Int32).toInt = 1 := by decide
  have hq : -1491309 ≤ ti.toInt.tdiv 1440 ∧ ti.toInt.tdiv 1440 ≤ 1491309 := by
    rcases Int.lt_or_le ti.toInt 0 with q | q
    · have e : ti.toInt.tdiv 1440 = -((-ti.toInt).tdiv 1440) := by rw [Int.neg_tdiv, Int.neg_neg]
      have e2 := Int.tdiv_eq_ediv_of_nonneg (a := -ti.toInt) (b := 1440) (by omega)
      omega
    · have e2 := Int.tdiv_eq_ediv_of_nonneg (a := ti.toInt) (b := 1440) q
      omega
  have e2 : (ti / 1440 : Int32).toInt = ti.toInt.tdiv 1440 := by
    rw [Int32.toInt_div, e0]
    refine Int.bmod_eq_of_le ?_ ?_ <;> omega
  rw [Int32.toInt_add, e2, e1]
  have e3 : (ti.toInt.tdiv 1440 + 1).bmod (2 ^ 32) = ti.toInt.tdiv 1440 + 1 := by
    refine Int.bmod_eq_of_le ?_ ?_ <;> omega
  rw [e3]
  omega
theorem detP_to {g : GT} {M : MT} {d : Nat} {h : Hp} {r0 r1 : Rs} {h0 h1 : Hp} {av : List AV} {bc bs : Nat} (hC : Ctr g M d bc bs av h (cy_detP r0 h0 (MP h h0))) (e1 : r0 = r1) (e2 : h0 = h1) : Ctr g M d bc bs av h (cy_detP r1 h1 (MP h h1)) := by subst e1; subst e2; exact hC
theorem nI_quo {a c : Nat} (hc : 0 < c ∧ c ≤ 10000) (ha : a ≤ 10000) : nI a / nI c = nI (a / c) := by
  apply Int32.toInt_inj.mp
  rw [Int32.toInt_div, nI_toInt (by omega), nI_toInt (by omega), nI_toInt (by
    have := Nat.div_le_self a c
    omega)]
  have h1 : ((a : Int).tdiv (c : Int)) = ((a / c : Nat) : Int) := by
    rw [Int.tdiv_eq_ediv_of_nonneg (by omega)]
    rfl
  rw [h1]
  have := Nat.div_le_self a c
  generalize a / c = q at this ⊢
  refine Int.bmod_eq_of_le ?_ ?_ <;> omega
theorem vin_div {x : Int32} {n c : Nat} (h : vp_in x n) (hn : n ≤ 10000 ∧ 0 < c ∧ c ≤ 10000) : vp_in (x / nI c) ((n - 1) / c + 1) := by
  obtain ⟨j, hj, rfl⟩ := vp_in_of h (by omega)
  rw [nI_quo hn.2 (by omega)]
  have h1 : j / c ≤ (n - 1) / c := Nat.div_le_div_right (by omega)
  have h2 := Nat.div_le_self (n - 1) c
  exact vp_in_nI (by omega) (by omega)
theorem vin_rem {x : Int32} {n c : Nat} (h : vp_in x n) (hn : n ≤ 10000 ∧ 0 < c ∧ c ≤ 10000) : vp_in (x - x / nI c * nI c) c := by
  obtain ⟨j, hj, rfl⟩ := vp_in_of h (by omega)
  rw [nI_quo hn.2 (by omega), nI_mul]
  have h1 : j / c * c + j % c = j := by rw [Nat.mul_comm]; exact Nat.div_add_mod j c
  have e : nI j = nI (j / c * c) + nI (j % c) := by rw [nI_add, h1]
  have h2 : nI j - nI (j / c * c) = nI (j % c) := by
    rw [e, Int32.add_comm, Int32.add_sub_cancel]
  rw [h2]
  exact vp_in_nI (Nat.mod_lt _ hn.2.1) (by omega)
