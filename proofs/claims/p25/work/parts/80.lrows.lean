/-! ===== own: the law's walk: rows for numbers ===== -/
theorem c_eq {x y : Int32} {a b : Int} (hx : x.toInt = a) (hy : y.toInt = b) : x = y ↔ a = b := by
  subst hx; subst hy
  exact Int32.toInt_inj.symm
theorem c_lt {x y : Int32} {a b : Int} (hx : x.toInt = a) (hy : y.toInt = b) : x < y ↔ a < b := by
  subst hx; subst hy
  exact Int32.lt_iff_toInt_lt
theorem c_le {x y : Int32} {a b : Int} (hx : x.toInt = a) (hy : y.toInt = b) : x ≤ y ↔ a ≤ b := by
  subst hx; subst hy
  exact Int32.le_iff_toInt_le
theorem nI_qq {a b : Nat} (hb : 0 < b) (ha : a < 2147483648) (hb2 : b < 2147483648) : nI a / nI b = nI (a / b) := by
  have hq : a / b ≤ a := Nat.div_le_self _ _
  apply Int32.toInt_inj.mp
  rw [Int32.toInt_div, nI_toInt ha, nI_toInt hb2, nI_toInt (by omega), ← Int.ofNat_tdiv]
  generalize a / b = q at hq ⊢
  exact Int.bmod_eq_of_le (by omega) (by omega)
theorem nI_rem {a b : Nat} (hb : 0 < b) (ha : a < 2147483648) (hb2 : b ≤ 10000) : nI a - nI a / nI b * nI b = nI (a % b) := by
  rw [nI_qq hb ha (by omega), nI_mul]
  have e : nI a = nI (a / b * b) + nI (a % b) := by
    rw [nI_add]
    congr 1
    have := Nat.div_add_mod a b
    rw [Nat.mul_comm] at this
    omega
  rw [e, Int32.add_comm, Int32.add_sub_cancel]
theorem vp_nI {k n : Nat} (h : k < n) (hn : n ≤ 2147483648) : vp_in (nI k) n := by
  intro z
  rcases z with z | z
  · exact nI_pos (by omega) z
  · rw [nI_clamp (by omega)] at z
    omega
section LN
variable {g : GT} {M : MT} {d uc us pc : Nat} {L : List (Nat × AV)} {st : List AV} {h : Wd} {Φ : Rs → Wd → Prop}
theorem wl_remE {a b : Nat} {x y : Int32} (hb : 0 < b) (ha : a < 2147483648) (hb2 : b ≤ 10000) (ex : x = nI a) (ey : y = nI b) (hd : decode (mC M) pc = .ok (.irem, 1)) (k : WL g M d uc us (pc + 1) L (.inl (.int (nI (a % b))) :: st) h Φ) : WL g M d uc us pc L (.inl (.int y) :: .inl (.int x) :: st) h Φ := by
  subst ex; subst ey
  refine wl_irem (fun e => ?_) hd ?_
  · have := nI_inj (b := 0) (by omega) (by decide) e
    omega
  · rw [nI_rem hb ha hb2]
    exact k
theorem wl_dldE {k : Nat} {x v : Int32} (hk : k < 43) (ex : x = nI k) (ev : wD h k = v) (hd : decode (mC M) pc = .ok (.iaload, 1)) (kk : WL g M d uc us (pc + 1) L (.inl (.int v) :: st) h Φ) : WL g M d uc us pc L (.inl (.int x) :: .inr (3, some 0) :: st) h Φ := by
  subst ex
  refine wl_dld (vp_nI hk (by decide)) hd ?_
  rw [nI_clamp (by omega), ev]
  exact kk
theorem wl_dstE {k : Nat} {x v : Int32} (hk : k < 43) (ex : x = nI k) (hd : decode (mC M) pc = .ok (.iastore, 1)) (kk : WL g M d uc us (pc + 1) L st (h.1, h.2.1, (fun z => if z = k then v else wD h z), h.2.2.2) Φ) : WL g M d uc us pc L (.inl (.int v) :: .inl (.int x) :: .inr (3, some 0) :: st) h Φ := by
  subst ex
  refine wl_dst (vp_nI hk (by decide)) hd ?_
  rw [nI_clamp (by omega)]
  exact kk
end LN
/-- a law's method went well: the two objects alike, and what holds of them -/
def PL (S : Nat → Int32) (N : Nat) : Rs → Wd → Prop := fun r w => r = .inl (some (.inl (.int 1))) ∧ ∃ h D, w = (h, h, D, S, N) ∧ IV h D
theorem some_val {x : Int32} {n : Nat} (h0 : 0 < n) (hn : n ≤ 10000) : ∃ j, j < n ∧ ((x.toUInt32 >>> ((1 : Int32).toUInt32 &&& Int32.toUInt32 31)).toInt32) - ((x.toUInt32 >>> ((1 : Int32).toUInt32 &&& Int32.toUInt32 31)).toInt32) / nI n * nI n = nI j := by
  have e : ∃ a, a < 2147483648 ∧ (x.toUInt32 >>> ((1 : Int32).toUInt32 &&& Int32.toUInt32 31)).toInt32 = nI a := by
    refine ⟨x.toUInt32.toNat / 2, by have := x.toUInt32.toNat_lt; omega, ?_⟩
    apply Int32.toBitVec_inj.1
    apply BitVec.eq_of_toNat_eq
    have h31 : ((1 : Int32).toUInt32 &&& Int32.toUInt32 31) = 1 := by decide
    rw [h31]
    show (x.toUInt32 >>> (1 : UInt32)).toNat = _
    rw [UInt32.toNat_shiftRight]
    show x.toUInt32.toNat >>> 1 = (BitVec.ofNat 32 (x.toUInt32.toNat / 2)).toNat
    rw [BitVec.toNat_ofNat, Nat.shiftRight_eq_div_pow, Nat.mod_eq_of_lt]
    have := x.toUInt32.toNat_lt
    omega
  obtain ⟨a, ha, e⟩ := e
  rw [e, nI_rem h0 ha hn]
  exact ⟨a % n, Nat.mod_lt _ h0, rfl⟩
-- walks
theorem some_ex {x m : Int32} {n : Nat} (hm : m = nI n) (h0 : 0 < n) (hn : n ≤ 10000) : ∃ j, j < n ∧ ∀ {g : GT} (d : Nat) {w : Wd}, CL g M_L_some d 0 0 [.inl (.int x), .inl (.int m)] w (cl_det (.inl (some (.inl (.int (nI j))))) w) := by
  subst hm
  obtain ⟨j, hj, ej⟩ := some_val (x := x) h0 hn
  refine ⟨j, hj, fun {g} d {w} => ?_⟩
  have hne : ¬ nI n = 0 := fun e => by
    have := nI_inj (b := 0) (by omega) (by decide) e
    omega
  refine cl_body rfl rfl (by decide) (Nat.le_of_ble_eq_true rfl) ?_
  refine wq_run [(.iload_n 0, 1), (.iconst 1, 1)] (pc' := 2) (L' := [(0, .inl (.int x)), (1, .inl (.int (nI n)))]) (st' := [.inl (.int 1), .inl (.int x)]) ⟨dL_some_0, dL_some_1, trivial⟩ rfl rfl ?_
  refine wl_iushr dL_some_2 ?_
  refine wq_run [(.iload_n 1, 1)] (pc' := 4) (L' := [(0, .inl (.int x)), (1, .inl (.int (nI n)))]) (st' := [.inl (.int (nI n)), .inl (.int ((x.toUInt32 >>> ((1 : Int32).toUInt32 &&& Int32.toUInt32 31)).toInt32))]) ⟨dL_some_3, trivial⟩ rfl rfl ?_
  refine wl_irem hne dL_some_4 ?_
  exact wl_iret rfl rfl dL_some_5 ⟨congrArg (fun z => Sum.inl (some (Sum.inl (Value.int z)))) ej, rfl⟩
theorem c_cell {g : GT} {d : Nat} {w : Wd} {k : Nat} (hN : wN w ≤ 260) (hk : k < 260) : CL g M_L_cell d 0 0 [.inr (4, some 0), .inl (.int (nI k))] w (fun r w' => (∃ x, r = .inl (some (.inl (.int x)))) ∧ w' = w) := by
  have hl : (Int32.ofNat (wN w)).toInt = ((wN w : Nat) : Int) := nI_toInt (by omega)
  refine cl_body rfl rfl (by decide) (Nat.le_of_ble_eq_true rfl) ?_
  refine wq_run [(.iload_n 1, 1), (.aload_n 0, 1)] (pc' := 2) (L' := [(0, .inr (4, some 0)), (1, .inl (.int (nI k)))]) (st' := [.inr (4, some 0), .inl (.int (nI k))]) ⟨dL_cell_0, dL_cell_1, trivial⟩ rfl rfl ?_
  refine wl_slen dL_cell_2 ?_
  refine wl_icmp_ge (tgt := 12) dL_cell_3 (by decide) (fun hc => ?_) (fun hc => ?_)
  · have hc : ((wN w : Nat) : Int) ≤ ((k : Nat) : Int) := (c_le hl (nI_toInt (by omega))).mp hc
    refine wl_ldc kc_L_7 dL_cell_12 ?_
    refine wq_run [(.iload_n 1, 1), (.bipush 117, 2), (.iadd, 1)] (pc' := 18) (L' := [(0, .inr (4, some 0)), (1, .inl (.int (nI k)))]) (st' := [.inl (.int ((nI k) + 117)), .inl (.int 91211)]) ⟨dL_cell_14, dL_cell_15, dL_cell_17, trivial⟩ rfl rfl ?_
    rw [show nI k + (117 : Int32) = nI (k + 117) from nI_add _ 117]
    refine wq_run [(.imul, 1)] (pc' := 19) (L' := [(0, .inr (4, some 0)), (1, .inl (.int (nI k)))]) (st' := [.inl (.int (91211 * (nI (k + 117))))]) ⟨dL_cell_18, trivial⟩ rfl rfl ?_
    rw [show (91211 : Int32) * nI (k + 117) = nI (91211 * (k + 117)) from nI_mul 91211 _]
    refine wq_run [(.istore_n 2, 1), (.iload_n 2, 1), (.iload_n 2, 1), (.bipush 16, 2)] (pc' := 24) (L' := [(2, .inl (.int (nI (91211 * (k + 117))))), (0, .inr (4, some 0)), (1, .inl (.int (nI k)))]) (st' := [.inl (.int 16), .inl (.int (nI (91211 * (k + 117)))), .inl (.int (nI (91211 * (k + 117))))]) ⟨dL_cell_19, dL_cell_20, dL_cell_21, dL_cell_22, trivial⟩ rfl rfl ?_
    refine wl_iushr dL_cell_24 ?_
    refine wl_ixor dL_cell_25 ?_
    refine wl_ldc kc_L_8 dL_cell_26 ?_
    refine wq_run [(.imul, 1), (.sipush 353, 3), (.iload_n 1, 1), (.imul, 1)] (pc' := 34) (L' := [(2, .inl (.int (nI (91211 * (k + 117))))), (0, .inr (4, some 0)), (1, .inl (.int (nI k)))]) (st' := [.inl (.int (353 * (nI k))), .inl (.int (((nI (91211 * (k + 117))) ^^^ (((nI (91211 * (k + 117))).toUInt32 >>> ((16 : Int32).toUInt32 &&& Int32.toUInt32 31)).toInt32)) * 1014596435))]) ⟨dL_cell_28, dL_cell_29, dL_cell_32, dL_cell_33, trivial⟩ rfl rfl ?_
    rw [show (353 : Int32) * nI k = nI (353 * k) from nI_mul 353 _]
    refine wq_run [(.iadd, 1)] (pc' := 35) (L' := [(2, .inl (.int (nI (91211 * (k + 117))))), (0, .inr (4, some 0)), (1, .inl (.int (nI k)))]) (st' := [.inl (.int ((((nI (91211 * (k + 117))) ^^^ (((nI (91211 * (k + 117))).toUInt32 >>> ((16 : Int32).toUInt32 &&& Int32.toUInt32 31)).toInt32)) * 1014596435) + (nI (353 * k))))]) ⟨dL_cell_34, trivial⟩ rfl rfl ?_
    exact wl_iret rfl rfl dL_cell_35 ⟨⟨_, rfl⟩, rfl⟩
  · have hc : ¬ (((wN w : Nat) : Int) ≤ ((k : Nat) : Int)) := fun z => hc ((c_le hl (nI_toInt (by omega))).mpr z)
    refine wq_run [(.aload_n 0, 1), (.iload_n 1, 1)] (pc' := 8) (L' := [(0, .inr (4, some 0)), (1, .inl (.int (nI k)))]) (st' := [.inl (.int (nI k)), .inr (4, some 0)]) ⟨dL_cell_6, dL_cell_7, trivial⟩ rfl rfl ?_
    refine wl_sld (vp_nI (by omega) (by omega)) dL_cell_8 ?_
    refine wl_goto (tgt := 19) dL_cell_9 (by decide) ?_
    refine wq_run [(.istore_n 2, 1), (.iload_n 2, 1), (.iload_n 2, 1), (.bipush 16, 2)] (pc' := 24) (L' := [(2, .inl (.int (wS w (nI k).toNatClampNeg))), (0, .inr (4, some 0)), (1, .inl (.int (nI k)))]) (st' := [.inl (.int 16), .inl (.int (wS w (nI k).toNatClampNeg)), .inl (.int (wS w (nI k).toNatClampNeg))]) ⟨dL_cell_19, dL_cell_20, dL_cell_21, dL_cell_22, trivial⟩ rfl rfl ?_
    refine wl_iushr dL_cell_24 ?_
    refine wl_ixor dL_cell_25 ?_
    refine wl_ldc kc_L_8 dL_cell_26 ?_
    refine wq_run [(.imul, 1), (.sipush 353, 3), (.iload_n 1, 1), (.imul, 1)] (pc' := 34) (L' := [(2, .inl (.int (wS w (nI k).toNatClampNeg))), (0, .inr (4, some 0)), (1, .inl (.int (nI k)))]) (st' := [.inl (.int (353 * (nI k))), .inl (.int (((wS w (nI k).toNatClampNeg) ^^^ (((wS w (nI k).toNatClampNeg).toUInt32 >>> ((16 : Int32).toUInt32 &&& Int32.toUInt32 31)).toInt32)) * 1014596435))]) ⟨dL_cell_28, dL_cell_29, dL_cell_32, dL_cell_33, trivial⟩ rfl rfl ?_
    rw [show (353 : Int32) * nI k = nI (353 * k) from nI_mul 353 _]
    refine wq_run [(.iadd, 1)] (pc' := 35) (L' := [(2, .inl (.int (wS w (nI k).toNatClampNeg))), (0, .inr (4, some 0)), (1, .inl (.int (nI k)))]) (st' := [.inl (.int ((((wS w (nI k).toNatClampNeg) ^^^ (((wS w (nI k).toNatClampNeg).toUInt32 >>> ((16 : Int32).toUInt32 &&& Int32.toUInt32 31)).toInt32)) * 1014596435) + (nI (353 * k))))]) ⟨dL_cell_34, trivial⟩ rfl rfl ?_
    exact wl_iret rfl rfl dL_cell_35 ⟨⟨_, rfl⟩, rfl⟩
