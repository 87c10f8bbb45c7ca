/-! ===== own: the law's own rounds ===== -/
theorem room_step {a b m u : Nat} (h : a * (m + 1) + b ≤ u) : a * m + b + a ≤ u := by
  rw [Nat.mul_succ] at h
  generalize a * m = q at *
  omega
section LAWRET
variable {g : GT} {M : MT} {d uc us pc : Nat} {L : List (Nat × AV)} {st : List AV} {h : Wd} {Φ : Rs → Wd → Prop}
theorem wl_lawret (hL : mL M = 1) (hC : mC M = code) (hR9 : mR M = ret) (hd : decode (mC M) pc = .ok (.ireturn, 1)) : WL g M d uc us pc L [.inl (.int 1)] h Φ := by
  intro hg p e R s m args below meth c H locs cells slots ls ad ad0 cn0 hE hd9 hdl hc hs hr hx hR hB hS hl hwL hwS
  have hL0 : mL M ≠ 0 := by rw [hL]; decide
  obtain ⟨⟨b, rfl⟩, hsz⟩ := hE.2.2.2.2.2.2.2.2 hL0
  obtain rfl := hr hL0
  simp only [cl_Fi, hL0, if_false]
  refine va_forget (fun q hq => Nat.le_trans hsz (hS.2.2 q hq)) ?_
  refine W.widen (k := 600074) (n := 7301549) (Nat.le_trans (Nat.le_add_right _ _) hc) (Nat.le_trans (Nat.le_add_right _ _) hs) ?_
  exact lw_ret (d0 := s.drawn) (Drawn.sameBut.refl s.drawn lw_cs) hE.1 (hE.2.1.trans hC) (hE.2.2.2.1.trans hR9) hE.2.2.2.2.2.1 (by rw [← hC]; exact hd)
end LAWRET
theorem cell_ex {w : Wd} {k : Nat} (hN : wN w ≤ 260) (hk : k < 260) : ∃ x : Int32, ∀ {g : GT} (d : Nat), CL g M_L_cell d 0 0 [.inr (4, some 0), .inl (.int (nI k))] w (cl_det (.inl (some (.inl (.int x)))) w) := by
  refine ⟨if ((wN w : Nat) : Int) ≤ ((k : Nat) : Int) then ((((nI (91211 * (k + 117))) ^^^ (((nI (91211 * (k + 117))).toUInt32 >>> ((16 : Int32).toUInt32 &&& Int32.toUInt32 31)).toInt32)) * 1014596435) + (nI (353 * k))) else ((((wS w (nI k).toNatClampNeg) ^^^ (((wS w (nI k).toNatClampNeg).toUInt32 >>> ((16 : Int32).toUInt32 &&& Int32.toUInt32 31)).toInt32)) * 1014596435) + (nI (353 * k))), fun {g} d => ?_⟩
  have hl : (Int32.ofNat (wN w)).toInt = ((wN w : Nat) : Int) := nI_toInt (by omega)
  refine cl_body rfl rfl (by decide) (Nat.le_of_ble_eq_true rfl) ?_
  refine wq_run [(.iload_n 1, 1), (.aload_n 0, 1)] (pc' := 2) (L' := [(0, .inr (4, some 0)), (1, .inl (.int (nI k)))]) (st' := [.inr (4, some 0), .inl (.int (nI k))]) ⟨dL_cell_0, dL_cell_1, trivial⟩ rfl rfl ?_
  refine wl_slen dL_cell_2 ?_
  refine wl_icmp_ge (tgt := 12) dL_cell_3 (by decide) (fun hc => ?_) (fun hc => ?_)
  · have hc : ((wN w : Nat) : Int) ≤ ((k : Nat) : Int) := (c_le hl (nI_toInt (by omega))).mp hc
    refine wl_ldc kc_L_7 dL_cell_12 ?_
    refine wq_run [(.iload_n 1, 1), (.bipush 117, 2), (.iadd, 1)] (pc' := 18) (L' := [(0, .inr (4, some 0)), (1, .inl (.int (nI k)))]) (st' := [.inl (.int ((nI k) + 117)), .inl (.int 91211)]) ⟨dL_cell_14, dL_cell_15, dL_cell_17, trivial⟩ rfl rfl ?_
    rw [show nI k + (117 : Int32) = nI (k + 117) from nI_add _ 117]
    refine wq_run [(.imul, 1)] (pc' := 19) (L' := [(0, .inr (4, some 0)), (1, .inl (.int (nI k)))]) (st' := [.inl (.int (91211 * (nI (k + 117))))]) ⟨dL_cell_18, trivial⟩ rfl rfl ?_
    rw [show (91211 : Int32) * nI (k + 117) = nI (91211 * (k + 117)) from nI_mul 91211 _]
    refine wq_run [(.istore_n 2, 1), (.iload_n 2, 1), (.iload_n 2, 1), (.bipush 16, 2)] (pc' := 24) (L' := [(2, .inl (.int (nI (91211 * (k + 117))))), (0, .inr (4, some 0)), (1, .inl (.int (nI k)))]) (st' := [.inl (.int 16), .inl (.int (nI (91211 * (k + 117)))), .inl (.int (nI (91211 * (k + 117))))]) ⟨dL_cell_19, dL_cell_20, dL_cell_21, dL_cell_22, trivial⟩ rfl rfl ?_
    refine wl_iushr dL_cell_24 ?_
    refine wl_ixor dL_cell_25 ?_
    refine wl_ldc kc_L_8 dL_cell_26 ?_
    refine wq_run [(.imul, 1), (.sipush 353, 3), (.iload_n 1, 1), (.imul, 1)] (pc' := 34) (L' := [(2, .inl (.int (nI (91211 * (k + 117))))), (0, .inr (4, some 0)), (1, .inl (.int (nI k)))]) (st' := [.inl (.int (353 * (nI k))), .inl (.int (((nI (91211 * (k + 117))) ^^^ (((nI (91211 * (k + 117))).toUInt32 >>> ((16 : Int32).toUInt32 &&& Int32.toUInt32 31)).toInt32)) * 1014596435))]) ⟨dL_cell_28, dL_cell_29, dL_cell_32, dL_cell_33, trivial⟩ rfl rfl ?_
    rw [show (353 : Int32) * nI k = nI (353 * k) from nI_mul 353 _]
    refine wq_run [(.iadd, 1)] (pc' := 35) (L' := [(2, .inl (.int (nI (91211 * (k + 117))))), (0, .inr (4, some 0)), (1, .inl (.int (nI k)))]) (st' := [.inl (.int ((((nI (91211 * (k + 117))) ^^^ (((nI (91211 * (k + 117))).toUInt32 >>> ((16 : Int32).toUInt32 &&& Int32.toUInt32 31)).toInt32)) * 1014596435) + (nI (353 * k))))]) ⟨dL_cell_34, trivial⟩ rfl rfl ?_
    exact wl_iret rfl rfl dL_cell_35 ⟨congrArg (fun z => Sum.inl (some (Sum.inl (Value.int z)))) (if_pos hc).symm, rfl⟩
  · have hc : ¬ (((wN w : Nat) : Int) ≤ ((k : Nat) : Int)) := fun z => hc ((c_le hl (nI_toInt (by omega))).mpr z)
    refine wq_run [(.aload_n 0, 1), (.iload_n 1, 1)] (pc' := 8) (L' := [(0, .inr (4, some 0)), (1, .inl (.int (nI k)))]) (st' := [.inl (.int (nI k)), .inr (4, some 0)]) ⟨dL_cell_6, dL_cell_7, trivial⟩ rfl rfl ?_
    refine wl_sld (vp_nI (by omega) (by omega)) dL_cell_8 ?_
    refine wl_goto (tgt := 19) dL_cell_9 (by decide) ?_
    refine wq_run [(.istore_n 2, 1), (.iload_n 2, 1), (.iload_n 2, 1), (.bipush 16, 2)] (pc' := 24) (L' := [(2, .inl (.int (wS w (nI k).toNatClampNeg))), (0, .inr (4, some 0)), (1, .inl (.int (nI k)))]) (st' := [.inl (.int 16), .inl (.int (wS w (nI k).toNatClampNeg)), .inl (.int (wS w (nI k).toNatClampNeg))]) ⟨dL_cell_19, dL_cell_20, dL_cell_21, dL_cell_22, trivial⟩ rfl rfl ?_
    refine wl_iushr dL_cell_24 ?_
    refine wl_ixor dL_cell_25 ?_
    refine wl_ldc kc_L_8 dL_cell_26 ?_
    refine wq_run [(.imul, 1), (.sipush 353, 3), (.iload_n 1, 1), (.imul, 1)] (pc' := 34) (L' := [(2, .inl (.int (wS w (nI k).toNatClampNeg))), (0, .inr (4, some 0)), (1, .inl (.int (nI k)))]) (st' := [.inl (.int (353 * (nI k))), .inl (.int (((wS w (nI k).toNatClampNeg) ^^^ (((wS w (nI k).toNatClampNeg).toUInt32 >>> ((16 : Int32).toUInt32 &&& Int32.toUInt32 31)).toInt32)) * 1014596435))]) ⟨dL_cell_28, dL_cell_29, dL_cell_32, dL_cell_33, trivial⟩ rfl rfl ?_
    rw [show (353 : Int32) * nI k = nI (353 * k) from nI_mul 353 _]
    refine wq_run [(.iadd, 1)] (pc' := 35) (L' := [(2, .inl (.int (wS w (nI k).toNatClampNeg))), (0, .inr (4, some 0)), (1, .inl (.int (nI k)))]) (st' := [.inl (.int ((((wS w (nI k).toNatClampNeg) ^^^ (((wS w (nI k).toNatClampNeg).toUInt32 >>> ((16 : Int32).toUInt32 &&& Int32.toUInt32 31)).toInt32)) * 1014596435) + (nI (353 * k))))]) ⟨dL_cell_34, trivial⟩ rfl rfl ?_
    exact wl_iret rfl rfl dL_cell_35 ⟨congrArg (fun z => Sum.inl (some (Sum.inl (Value.int z)))) (if_neg hc).symm, rfl⟩
theorem law_tail {g : GT} {d uc us k : Nat} (hd : 19 ≤ d) (hk : k < 90) {h : Hp} {D S : Nat → Int32} {N : Nat} {i4 : Int32} {Φ : Rs → Wd → Prop} (I : IV h D) (kk : WL g M_L_law d uc us 31 [(5, .inl (.int (nI (k + 1)))), (4, .inl (.int 1)), (3, .inr (3, some 0)), (2, .inr (2, some 0)), (1, .inr (1, some 0)), (0, .inr (4, some 0))] [] (h, h, D, S, N) Φ) : WL g M_L_law d (uc + 2600) (us + 15700) 159 [(5, .inl (.int (nI k))), (4, .inl (.int i4)), (3, .inr (3, some 0)), (2, .inr (2, some 0)), (1, .inr (1, some 0)), (0, .inr (4, some 0))] [.inl (.int 1)] (h, h, D, S, N) Φ := by
  obtain ⟨vA, va⟩ := c_all I
  refine wq_run [(.istore 4, 2), (.iload 4, 2)] (pc' := 163) (L' := [(4, .inl (.int 1)), (5, .inl (.int (nI k))), (3, .inr (3, some 0)), (2, .inr (2, some 0)), (1, .inr (1, some 0)), (0, .inr (4, some 0))]) (st' := [.inl (.int 1)]) ⟨dL_law_159, dL_law_161, trivial⟩ rfl rfl ?_
  refine wl_if_eq (tgt := 208) dL_law_163 (by decide) (fun h => absurd h (by decide)) (fun _ => ?_)
  refine wq_run [(.iload 5, 2), (.bipush 30, 2)] (pc' := 170) (L' := [(4, .inl (.int 1)), (5, .inl (.int (nI k))), (3, .inr (3, some 0)), (2, .inr (2, some 0)), (1, .inr (1, some 0)), (0, .inr (4, some 0))]) (st' := [.inl (.int 30), .inl (.int (nI k))]) ⟨dL_law_166, dL_law_168, trivial⟩ rfl rfl ?_
  refine wl_remE (a := k) (b := 30) (by omega) (by omega) (by omega) rfl rfl dL_law_170 ?_
  refine wl_if_gt (tgt := 188) dL_law_171 (by decide) (fun h171 => ?_) (fun h171 => ?_)
  · have h171 : (0 : Int) < (((k) % (30) : Nat) : Int) := (c_lt (by decide : (0 : Int32).toInt = 0) (nI_toInt (by omega))).mp h171
    refine wq_run [(.iload 5, 2), (.bipush 45, 2)] (pc' := 192) (L' := [(4, .inl (.int 1)), (5, .inl (.int (nI k))), (3, .inr (3, some 0)), (2, .inr (2, some 0)), (1, .inr (1, some 0)), (0, .inr (4, some 0))]) (st' := [.inl (.int 45), .inl (.int (nI k))]) ⟨dL_law_188, dL_law_190, trivial⟩ rfl rfl ?_
    refine wl_remE (a := k) (b := 45) (by omega) (by omega) (by omega) rfl rfl dL_law_192 ?_
    refine wl_if_gt (tgt := 204) dL_law_193 (by decide) (fun h193 => ?_) (fun h193 => ?_)
    · have h193 : (0 : Int) < (((k) % (45) : Nat) : Int) := (c_lt (by decide : (0 : Int32).toInt = 0) (nI_toInt (by omega))).mp h193
      refine wq_run [(.iconst 1, 1)] (pc' := 205) (L' := [(4, .inl (.int 1)), (5, .inl (.int (nI k))), (3, .inr (3, some 0)), (2, .inr (2, some 0)), (1, .inr (1, some 0)), (0, .inr (4, some 0))]) (st' := [.inl (.int 1)]) ⟨dL_law_204, trivial⟩ rfl rfl ?_
      refine wl_goto (tgt := 209) dL_law_205 (by decide) ?_
      refine wq_run [(.istore 4, 2), (.iinc 5 1, 3)] (pc' := 214) (L' := [(5, .inl (.int ((nI k) + 1))), (4, .inl (.int 1)), (3, .inr (3, some 0)), (2, .inr (2, some 0)), (1, .inr (1, some 0)), (0, .inr (4, some 0))]) (st' := []) ⟨dL_law_209, dL_law_211, trivial⟩ rfl rfl ?_
      rw [show nI k + (1 : Int32) = nI (k + 1) from nI_add _ 1]
      refine wl_goto (tgt := 31) dL_law_214 (by decide) ?_
      refine wq_sub [0, 1, 2, 3, 4, 5] (L' := [(5, .inl (.int (nI (k + 1)))), (4, .inl (.int 1)), (3, .inr (3, some 0)), (2, .inr (2, some 0)), (1, .inr (1, some 0)), (0, .inr (4, some 0))]) rfl ?_
      refine WL.room (uc' := uc) (us' := us) (by omega) (by omega) ?_
      exact kk
    · have h193 : ¬ ((0 : Int) < (((k) % (45) : Nat) : Int)) := fun z => h193 ((c_lt (by decide : (0 : Int32).toInt = 0) (nI_toInt (by omega))).mpr z)
      refine wq_run [(.aload_n 1, 1), (.aload_n 3, 1)] (pc' := 198) (L' := [(4, .inl (.int 1)), (5, .inl (.int (nI k))), (3, .inr (3, some 0)), (2, .inr (2, some 0)), (1, .inr (1, some 0)), (0, .inr (4, some 0))]) (st' := [.inr (3, some 0), .inr (1, some 0)]) ⟨dL_law_196, dL_law_197, trivial⟩ rfl rfl ?_
      refine WL.room (uc' := uc + 1100 + 1500) (us' := us + 6200 + 9500) (by omega) (by omega) ?_
      refine wl_static (M := M_L_law) (uc := uc + 1100) (us := us + 6200) (bc := 1500) (bs := 9500) (As := [.inr (1, some 0), .inr (3, some 0)]) (rest := []) (ok_L_refused _ _) ml_L_137 st_L_refused (by omega) (c_refused (d := d - 1) (by omega) I) rfl rfl (Nat.le_of_ble_eq_true rfl) dL_law_198 (fun r9 h9 e9 => ?_) (fun E9 h9 e9 => nomatch e9.1)
      obtain ⟨e9, rfl⟩ := e9
      cases e9
      refine wl_if_eq (tgt := 208) dL_law_201 (by decide) (fun h => absurd h (by decide)) (fun _ => ?_)
      refine wq_run [(.iconst 1, 1)] (pc' := 205) (L' := [(4, .inl (.int 1)), (5, .inl (.int (nI k))), (3, .inr (3, some 0)), (2, .inr (2, some 0)), (1, .inr (1, some 0)), (0, .inr (4, some 0))]) (st' := [.inl (.int 1)]) ⟨dL_law_204, trivial⟩ rfl rfl ?_
      refine wl_goto (tgt := 209) dL_law_205 (by decide) ?_
      refine wq_run [(.istore 4, 2), (.iinc 5 1, 3)] (pc' := 214) (L' := [(5, .inl (.int ((nI k) + 1))), (4, .inl (.int 1)), (3, .inr (3, some 0)), (2, .inr (2, some 0)), (1, .inr (1, some 0)), (0, .inr (4, some 0))]) (st' := []) ⟨dL_law_209, dL_law_211, trivial⟩ rfl rfl ?_
      rw [show nI k + (1 : Int32) = nI (k + 1) from nI_add _ 1]
      refine wl_goto (tgt := 31) dL_law_214 (by decide) ?_
      refine wq_sub [0, 1, 2, 3, 4, 5] (L' := [(5, .inl (.int (nI (k + 1)))), (4, .inl (.int 1)), (3, .inr (3, some 0)), (2, .inr (2, some 0)), (1, .inr (1, some 0)), (0, .inr (4, some 0))]) rfl ?_
      refine WL.room (uc' := uc) (us' := us) (by omega) (by omega) ?_
      exact kk
  · have h171 : ¬ ((0 : Int) < (((k) % (30) : Nat) : Int)) := fun z => h171 ((c_lt (by decide : (0 : Int32).toInt = 0) (nI_toInt (by omega))).mpr z)
    refine wq_run [(.aload_n 1, 1), (.aload_n 3, 1)] (pc' := 176) (L' := [(4, .inl (.int 1)), (5, .inl (.int (nI k))), (3, .inr (3, some 0)), (2, .inr (2, some 0)), (1, .inr (1, some 0)), (0, .inr (4, some 0))]) (st' := [.inr (3, some 0), .inr (1, some 0)]) ⟨dL_law_174, dL_law_175, trivial⟩ rfl rfl ?_
    refine WL.room (uc' := uc + 2050 + 550) (us' := us + 12600 + 3100) (by omega) (by omega) ?_
    refine wl_static (M := M_L_law) (uc := uc + 2050) (us := us + 12600) (bc := 550) (bs := 3100) (As := [.inr (1, some 0), .inr (3, some 0)]) (rest := []) (ok_L_all _ _) ml_L_131 st_L_all (by omega) (va (d := d - 1) (q := 1) (.inl rfl) (by omega)) rfl rfl (Nat.le_of_ble_eq_true rfl) dL_law_176 (fun r9 h9 e9 => ?_) (fun E9 h9 e9 => nomatch e9.1)
    obtain ⟨e9, rfl⟩ := e9
    cases e9
    refine wq_run [(.aload_n 2, 1), (.aload_n 3, 1)] (pc' := 181) (L' := [(4, .inl (.int 1)), (5, .inl (.int (nI k))), (3, .inr (3, some 0)), (2, .inr (2, some 0)), (1, .inr (1, some 0)), (0, .inr (4, some 0))]) (st' := [.inr (3, some 0), .inr (2, some 0), .inl (.long vA)]) ⟨dL_law_179, dL_law_180, trivial⟩ rfl rfl ?_
    refine WL.room (uc' := uc + 1500 + 550) (us' := us + 9500 + 3100) (by omega) (by omega) ?_
    refine wl_static (M := M_L_law) (uc := uc + 1500) (us := us + 9500) (bc := 550) (bs := 3100) (As := [.inr (2, some 0), .inr (3, some 0)]) (rest := [.inl (.long vA)]) (ok_L_all _ _) ml_L_131 st_L_all (by omega) (va (d := d - 1) (q := 2) (.inr rfl) (by omega)) rfl rfl (Nat.le_of_ble_eq_true rfl) dL_law_181 (fun r9 h9 e9 => ?_) (fun E9 h9 e9 => nomatch e9.1)
    obtain ⟨e9, rfl⟩ := e9
    cases e9
    refine wq_run [(.lcmp, 1)] (pc' := 185) (L' := [(4, .inl (.int 1)), (5, .inl (.int (nI k))), (3, .inr (3, some 0)), (2, .inr (2, some 0)), (1, .inr (1, some 0)), (0, .inr (4, some 0))]) (st' := [.inl (.int (lg_cmp vA vA))]) ⟨dL_law_184, trivial⟩ rfl rfl ?_
    rw [lg_self vA]
    refine wl_if_ne (tgt := 208) dL_law_185 (by decide) (fun h => absurd h (by decide)) (fun _ => ?_)
    refine wq_run [(.iload 5, 2), (.bipush 45, 2)] (pc' := 192) (L' := [(4, .inl (.int 1)), (5, .inl (.int (nI k))), (3, .inr (3, some 0)), (2, .inr (2, some 0)), (1, .inr (1, some 0)), (0, .inr (4, some 0))]) (st' := [.inl (.int 45), .inl (.int (nI k))]) ⟨dL_law_188, dL_law_190, trivial⟩ rfl rfl ?_
    refine wl_remE (a := k) (b := 45) (by omega) (by omega) (by omega) rfl rfl dL_law_192 ?_
    refine wl_if_gt (tgt := 204) dL_law_193 (by decide) (fun h193 => ?_) (fun h193 => ?_)
    · have h193 : (0 : Int) < (((k) % (45) : Nat) : Int) := (c_lt (by decide : (0 : Int32).toInt = 0) (nI_toInt (by omega))).mp h193
      refine wq_run [(.iconst 1, 1)] (pc' := 205) (L' := [(4, .inl (.int 1)), (5, .inl (.int (nI k))), (3, .inr (3, some 0)), (2, .inr (2, some 0)), (1, .inr (1, some 0)), (0, .inr (4, some 0))]) (st' := [.inl (.int 1)]) ⟨dL_law_204, trivial⟩ rfl rfl ?_
      refine wl_goto (tgt := 209) dL_law_205 (by decide) ?_
      refine wq_run [(.istore 4, 2), (.iinc 5 1, 3)] (pc' := 214) (L' := [(5, .inl (.int ((nI k) + 1))), (4, .inl (.int 1)), (3, .inr (3, some 0)), (2, .inr (2, some 0)), (1, .inr (1, some 0)), (0, .inr (4, some 0))]) (st' := []) ⟨dL_law_209, dL_law_211, trivial⟩ rfl rfl ?_
      rw [show nI k + (1 : Int32) = nI (k + 1) from nI_add _ 1]
      refine wl_goto (tgt := 31) dL_law_214 (by decide) ?_
      refine wq_sub [0, 1, 2, 3, 4, 5] (L' := [(5, .inl (.int (nI (k + 1)))), (4, .inl (.int 1)), (3, .inr (3, some 0)), (2, .inr (2, some 0)), (1, .inr (1, some 0)), (0, .inr (4, some 0))]) rfl ?_
      refine WL.room (uc' := uc) (us' := us) (by omega) (by omega) ?_
      exact kk
    · have h193 : ¬ ((0 : Int) < (((k) % (45) : Nat) : Int)) := fun z => h193 ((c_lt (by decide : (0 : Int32).toInt = 0) (nI_toInt (by omega))).mpr z)
      refine wq_run [(.aload_n 1, 1), (.aload_n 3, 1)] (pc' := 198) (L' := [(4, .inl (.int 1)), (5, .inl (.int (nI k))), (3, .inr (3, some 0)), (2, .inr (2, some 0)), (1, .inr (1, some 0)), (0, .inr (4, some 0))]) (st' := [.inr (3, some 0), .inr (1, some 0)]) ⟨dL_law_196, dL_law_197, trivial⟩ rfl rfl ?_
      refine WL.room (uc' := uc + 0 + 1500) (us' := us + 0 + 9500) (by omega) (by omega) ?_
      refine wl_static (M := M_L_law) (uc := uc + 0) (us := us + 0) (bc := 1500) (bs := 9500) (As := [.inr (1, some 0), .inr (3, some 0)]) (rest := []) (ok_L_refused _ _) ml_L_137 st_L_refused (by omega) (c_refused (d := d - 1) (by omega) I) rfl rfl (Nat.le_of_ble_eq_true rfl) dL_law_198 (fun r9 h9 e9 => ?_) (fun E9 h9 e9 => nomatch e9.1)
      obtain ⟨e9, rfl⟩ := e9
      cases e9
      refine wl_if_eq (tgt := 208) dL_law_201 (by decide) (fun h => absurd h (by decide)) (fun _ => ?_)
      refine wq_run [(.iconst 1, 1)] (pc' := 205) (L' := [(4, .inl (.int 1)), (5, .inl (.int (nI k))), (3, .inr (3, some 0)), (2, .inr (2, some 0)), (1, .inr (1, some 0)), (0, .inr (4, some 0))]) (st' := [.inl (.int 1)]) ⟨dL_law_204, trivial⟩ rfl rfl ?_
      refine wl_goto (tgt := 209) dL_law_205 (by decide) ?_
      refine wq_run [(.istore 4, 2), (.iinc 5 1, 3)] (pc' := 214) (L' := [(5, .inl (.int ((nI k) + 1))), (4, .inl (.int 1)), (3, .inr (3, some 0)), (2, .inr (2, some 0)), (1, .inr (1, some 0)), (0, .inr (4, some 0))]) (st' := []) ⟨dL_law_209, dL_law_211, trivial⟩ rfl rfl ?_
      rw [show nI k + (1 : Int32) = nI (k + 1) from nI_add _ 1]
      refine wl_goto (tgt := 31) dL_law_214 (by decide) ?_
      refine wq_sub [0, 1, 2, 3, 4, 5] (L' := [(5, .inl (.int (nI (k + 1)))), (4, .inl (.int 1)), (3, .inr (3, some 0)), (2, .inr (2, some 0)), (1, .inr (1, some 0)), (0, .inr (4, some 0))]) rfl ?_
      refine WL.room (uc' := uc) (us' := us) (by omega) (by omega) ?_
      exact kk
theorem law_loop {g : GT} {d : Nat} (hd : 19 ≤ d) {S : Nat → Int32} {N : Nat} (hN : N ≤ 260) {Φ : Rs → Wd → Prop} : ∀ (m k uc us : Nat) (h : Hp) (D : Nat → Int32), k + m = 90 → 3700 * m + 1100 ≤ uc → 22200 * m + 6200 ≤ us → IV h D → WL g M_L_law d uc us 31 [(5, .inl (.int (nI k))), (4, .inl (.int 1)), (3, .inr (3, some 0)), (2, .inr (2, some 0)), (1, .inr (1, some 0)), (0, .inr (4, some 0))] [] (h, h, D, S, N) Φ := by
  intro m
  induction m with
  | zero =>
    intro k uc us h D hk hu hs I
    refine WL.room (uc' := 1100) (us' := 6200) (by omega) (by omega) ?_
    obtain ⟨vA, va⟩ := c_all I
    refine wq_run [(.iload 5, 2), (.bipush 90, 2)] (pc' := 35) (L' := [(5, .inl (.int (nI k))), (4, .inl (.int 1)), (3, .inr (3, some 0)), (2, .inr (2, some 0)), (1, .inr (1, some 0)), (0, .inr (4, some 0))]) (st' := [.inl (.int 90), .inl (.int (nI k))]) ⟨dL_law_31, dL_law_33, trivial⟩ rfl rfl ?_
    refine wl_icmp_ge (tgt := 217) dL_law_35 (by decide) (fun _ => ?_) (fun hb35 => absurd ((c_le (by decide : (90 : Int32).toInt = 90) (nI_toInt (by omega))).mpr (by omega)) hb35)
    refine wq_run [(.iload 4, 2)] (pc' := 219) (L' := [(5, .inl (.int (nI k))), (4, .inl (.int 1)), (3, .inr (3, some 0)), (2, .inr (2, some 0)), (1, .inr (1, some 0)), (0, .inr (4, some 0))]) (st' := [.inl (.int 1)]) ⟨dL_law_217, trivial⟩ rfl rfl ?_
    refine wl_if_eq (tgt := 240) dL_law_219 (by decide) (fun h => absurd h (by decide)) (fun _ => ?_)
    refine wq_run [(.aload_n 1, 1), (.aload_n 3, 1)] (pc' := 224) (L' := [(5, .inl (.int (nI k))), (4, .inl (.int 1)), (3, .inr (3, some 0)), (2, .inr (2, some 0)), (1, .inr (1, some 0)), (0, .inr (4, some 0))]) (st' := [.inr (3, some 0), .inr (1, some 0)]) ⟨dL_law_222, dL_law_223, trivial⟩ rfl rfl ?_
    refine wl_static (M := M_L_law) (uc := 550) (us := 3100) (bc := 550) (bs := 3100) (As := [.inr (1, some 0), .inr (3, some 0)]) (rest := []) (ok_L_all _ _) ml_L_131 st_L_all (by omega) (va (d := d - 1) (q := 1) (.inl rfl) (by omega)) rfl rfl (Nat.le_of_ble_eq_true rfl) dL_law_224 (fun r9 h9 e9 => ?_) (fun E9 h9 e9 => nomatch e9.1)
    obtain ⟨e9, rfl⟩ := e9
    cases e9
    refine wq_run [(.aload_n 2, 1), (.aload_n 3, 1)] (pc' := 229) (L' := [(5, .inl (.int (nI k))), (4, .inl (.int 1)), (3, .inr (3, some 0)), (2, .inr (2, some 0)), (1, .inr (1, some 0)), (0, .inr (4, some 0))]) (st' := [.inr (3, some 0), .inr (2, some 0), .inl (.long vA)]) ⟨dL_law_227, dL_law_228, trivial⟩ rfl rfl ?_
    refine wl_static (M := M_L_law) (uc := 0) (us := 0) (bc := 550) (bs := 3100) (As := [.inr (2, some 0), .inr (3, some 0)]) (rest := [.inl (.long vA)]) (ok_L_all _ _) ml_L_131 st_L_all (by omega) (va (d := d - 1) (q := 2) (.inr rfl) (by omega)) rfl rfl (Nat.le_of_ble_eq_true rfl) dL_law_229 (fun r9 h9 e9 => ?_) (fun E9 h9 e9 => nomatch e9.1)
    obtain ⟨e9, rfl⟩ := e9
    cases e9
    refine wq_run [(.lcmp, 1)] (pc' := 233) (L' := [(5, .inl (.int (nI k))), (4, .inl (.int 1)), (3, .inr (3, some 0)), (2, .inr (2, some 0)), (1, .inr (1, some 0)), (0, .inr (4, some 0))]) (st' := [.inl (.int (lg_cmp vA vA))]) ⟨dL_law_232, trivial⟩ rfl rfl ?_
    rw [lg_self vA]
    refine wl_if_ne (tgt := 240) dL_law_233 (by decide) (fun h => absurd h (by decide)) (fun _ => ?_)
    refine wq_run [(.iconst 1, 1)] (pc' := 237) (L' := [(5, .inl (.int (nI k))), (4, .inl (.int 1)), (3, .inr (3, some 0)), (2, .inr (2, some 0)), (1, .inr (1, some 0)), (0, .inr (4, some 0))]) (st' := [.inl (.int 1)]) ⟨dL_law_236, trivial⟩ rfl rfl ?_
    refine wl_goto (tgt := 241) dL_law_237 (by decide) ?_
    exact wl_lawret rfl rfl rfl dL_law_241
  | succ m ih =>
    intro k uc us h D hk hu hs I
    have hu2 := room_step hu
    have hs2 := room_step hs
    clear hu hs
    obtain ⟨A, hA⟩ : ∃ A, A = 3700 * m + 1100 := ⟨_, rfl⟩
    obtain ⟨B, hB⟩ : ∃ B, B = 22200 * m + 6200 := ⟨_, rfl⟩
    rw [← hA] at ih hu2
    rw [← hB] at ih hs2
    clear hA hB
    refine WL.room (uc' := A + 3700) (us' := B + 22200) hu2 hs2 ?_
    clear hu2 hs2
    obtain ⟨x1, k1⟩ := cell_ex (w := (h, h, D, S, N)) (k := 2 * k) hN (by omega)
    obtain ⟨x2, k2⟩ := cell_ex (w := (h, h, D, S, N)) (k := 2 * k + 1) hN (by omega)
    refine wq_run [(.iload 5, 2), (.bipush 90, 2)] (pc' := 35) (L' := [(5, .inl (.int (nI k))), (4, .inl (.int 1)), (3, .inr (3, some 0)), (2, .inr (2, some 0)), (1, .inr (1, some 0)), (0, .inr (4, some 0))]) (st' := [.inl (.int 90), .inl (.int (nI k))]) ⟨dL_law_31, dL_law_33, trivial⟩ rfl rfl ?_
    refine wl_icmp_ge (tgt := 217) dL_law_35 (by decide) (fun hb35 => absurd ((c_le (by decide : (90 : Int32).toInt = 90) (nI_toInt (by omega))).mp hb35) (by omega)) (fun _ => ?_)
    refine wq_run [(.iload 4, 2)] (pc' := 40) (L' := [(5, .inl (.int (nI k))), (4, .inl (.int 1)), (3, .inr (3, some 0)), (2, .inr (2, some 0)), (1, .inr (1, some 0)), (0, .inr (4, some 0))]) (st' := [.inl (.int 1)]) ⟨dL_law_38, trivial⟩ rfl rfl ?_
    refine wl_if_eq (tgt := 217) dL_law_40 (by decide) (fun h => absurd h (by decide)) (fun _ => ?_)
    refine wq_run [(.aload_n 0, 1), (.iconst 2, 1), (.iload 5, 2), (.imul, 1)] (pc' := 48) (L' := [(5, .inl (.int (nI k))), (4, .inl (.int 1)), (3, .inr (3, some 0)), (2, .inr (2, some 0)), (1, .inr (1, some 0)), (0, .inr (4, some 0))]) (st' := [.inl (.int (2 * (nI k))), .inr (4, some 0)]) ⟨dL_law_43, dL_law_44, dL_law_45, dL_law_47, trivial⟩ rfl rfl ?_
    rw [show (2 : Int32) * nI k = nI (2 * k) from nI_mul 2 _]
    refine WL.room (uc' := A + 3700 + 0) (us' := B + 22200 + 0) (by omega) (by omega) ?_
    refine wl_static (M := M_L_law) (uc := A + 3700) (us := B + 22200) (bc := 0) (bs := 0) (As := [.inr (4, some 0), .inl (.int (nI (2 * k)))]) (rest := []) (ok_L_cell _ _) ml_L_141 st_L_cell (by omega) (k1 (d - 1)) rfl rfl (Nat.le_of_ble_eq_true rfl) dL_law_48 (fun r9 h9 e9 => ?_) (fun E9 h9 e9 => nomatch e9.1)
    obtain ⟨e9, rfl⟩ := e9
    cases e9
    refine wq_run [(.istore 6, 2), (.aload_n 0, 1), (.iconst 2, 1), (.iload 5, 2), (.imul, 1)] (pc' := 58) (L' := [(6, .inl (.int x1)), (5, .inl (.int (nI k))), (4, .inl (.int 1)), (3, .inr (3, some 0)), (2, .inr (2, some 0)), (1, .inr (1, some 0)), (0, .inr (4, some 0))]) (st' := [.inl (.int (2 * (nI k))), .inr (4, some 0)]) ⟨dL_law_51, dL_law_53, dL_law_54, dL_law_55, dL_law_57, trivial⟩ rfl rfl ?_
    rw [show (2 : Int32) * nI k = nI (2 * k) from nI_mul 2 _]
    refine wq_run [(.iconst 1, 1), (.iadd, 1)] (pc' := 60) (L' := [(6, .inl (.int x1)), (5, .inl (.int (nI k))), (4, .inl (.int 1)), (3, .inr (3, some 0)), (2, .inr (2, some 0)), (1, .inr (1, some 0)), (0, .inr (4, some 0))]) (st' := [.inl (.int ((nI (2 * k)) + 1)), .inr (4, some 0)]) ⟨dL_law_58, dL_law_59, trivial⟩ rfl rfl ?_
    rw [show nI (2 * k) + (1 : Int32) = nI ((2 * k) + 1) from nI_add _ 1]
    refine WL.room (uc' := A + 3700 + 0) (us' := B + 22200 + 0) (by omega) (by omega) ?_
    refine wl_static (M := M_L_law) (uc := A + 3700) (us := B + 22200) (bc := 0) (bs := 0) (As := [.inr (4, some 0), .inl (.int (nI ((2 * k) + 1)))]) (rest := []) (ok_L_cell _ _) ml_L_141 st_L_cell (by omega) (k2 (d - 1)) rfl rfl (Nat.le_of_ble_eq_true rfl) dL_law_60 (fun r9 h9 e9 => ?_) (fun E9 h9 e9 => nomatch e9.1)
    obtain ⟨e9, rfl⟩ := e9
    cases e9
    refine wq_run [(.istore 7, 2), (.iload 6, 2), (.bipush 24, 2)] (pc' := 69) (L' := [(7, .inl (.int x2)), (6, .inl (.int x1)), (5, .inl (.int (nI k))), (4, .inl (.int 1)), (3, .inr (3, some 0)), (2, .inr (2, some 0)), (1, .inr (1, some 0)), (0, .inr (4, some 0))]) (st' := [.inl (.int 24), .inl (.int x1)]) ⟨dL_law_63, dL_law_65, dL_law_67, trivial⟩ rfl rfl ?_
    obtain ⟨j69, j69l, j69k⟩ := some_ex (x := x1) (m := 24) (n := 24) rfl (by omega) (by omega)
    refine WL.room (uc' := A + 3700 + 0) (us' := B + 22200 + 0) (by omega) (by omega) ?_
    refine wl_static (M := M_L_law) (uc := A + 3700) (us := B + 22200) (bc := 0) (bs := 0) (As := [.inl (.int x1), .inl (.int 24)]) (rest := []) (ok_L_some _ _) ml_L_117 st_L_some (by omega) (j69k (d - 1)) rfl rfl (Nat.le_of_ble_eq_true rfl) dL_law_69 (fun r9 h9 e9 => ?_) (fun E9 h9 e9 => nomatch e9.1)
    obtain ⟨e9, rfl⟩ := e9
    cases e9
    refine wq_run [(.istore 8, 2), (.iload 8, 2), (.bipush 8, 2)] (pc' := 78) (L' := [(8, .inl (.int (nI j69))), (7, .inl (.int x2)), (6, .inl (.int x1)), (5, .inl (.int (nI k))), (4, .inl (.int 1)), (3, .inr (3, some 0)), (2, .inr (2, some 0)), (1, .inr (1, some 0)), (0, .inr (4, some 0))]) (st' := [.inl (.int 8), .inl (.int (nI j69))]) ⟨dL_law_72, dL_law_74, dL_law_76, trivial⟩ rfl rfl ?_
    refine wl_icmp_lt (tgt := 88) dL_law_78 (by decide) (fun h78 => ?_) (fun h78 => ?_)
    · have h78 : ((j69 : Nat) : Int) < (8 : Int) := (c_lt (nI_toInt (by omega)) (by decide : (8 : Int32).toInt = 8)).mp h78
      refine wq_run [(.aload_n 1, 1), (.aload_n 2, 1), (.aload_n 3, 1), (.iload 6, 2), (.iconst 5, 1), (.ishr, 1), (.iload 7, 2)] (pc' := 97) (L' := [(8, .inl (.int (nI j69))), (7, .inl (.int x2)), (6, .inl (.int x1)), (5, .inl (.int (nI k))), (4, .inl (.int 1)), (3, .inr (3, some 0)), (2, .inr (2, some 0)), (1, .inr (1, some 0)), (0, .inr (4, some 0))]) (st' := [.inl (.int x2), .inl (.int (x1 >>> (5 &&& 31))), .inr (3, some 0), .inr (2, some 0), .inr (1, some 0)]) ⟨dL_law_88, dL_law_89, dL_law_90, dL_law_91, dL_law_93, dL_law_94, dL_law_95, trivial⟩ rfl rfl ?_
      refine WL.room (uc' := A + 3640 + 60) (us' := B + 21200 + 1000) (by omega) (by omega) ?_
      refine wl_static (M := M_L_law) (uc := A + 3640) (us := B + 21200) (bc := 60) (bs := 1000) (As := [.inr (1, some 0), .inr (2, some 0), .inr (3, some 0), .inl (.int (x1 >>> (5 &&& 31))), .inl (.int x2)]) (rest := []) (ok_L_land _ _) ml_L_145 st_L_land (by omega) (c_land (d := d - 1) (by omega) I (x1 >>> (5 &&& 31)) x2) rfl rfl (Nat.le_of_ble_eq_true rfl) dL_law_97 (fun r9 h9 e9 => ?_) (fun E9 h9 e9 => nomatch e9.1)
      obtain ⟨e9, h1, D1, e8, I1⟩ := e9
      subst e8
      cases e9
      refine wl_goto (tgt := 159) dL_law_100 (by decide) ?_
      refine wq_sub [3, 4, 5, 6, 7, 8] (L' := [(5, .inl (.int (nI k))), (4, .inl (.int 1)), (3, .inr (3, some 0)), (2, .inr (2, some 0)), (1, .inr (1, some 0)), (0, .inr (4, some 0))]) rfl ?_
      refine WL.room (uc' := A + 2600) (us' := B + 15700) (by omega) (by omega) ?_
      exact law_tail (uc := A) (us := B) hd (by omega) I1 (ih (k + 1) A B _ _ (by omega) (Nat.le_refl _) (Nat.le_refl _) I1)
    · have h78 : ¬ (((j69 : Nat) : Int) < (8 : Int)) := fun z => h78 ((c_lt (nI_toInt (by omega)) (by decide : (8 : Int32).toInt = 8)).mpr z)
      refine wq_run [(.iload 5, 2), (.bipush 12, 2)] (pc' := 85) (L' := [(8, .inl (.int (nI j69))), (7, .inl (.int x2)), (6, .inl (.int x1)), (5, .inl (.int (nI k))), (4, .inl (.int 1)), (3, .inr (3, some 0)), (2, .inr (2, some 0)), (1, .inr (1, some 0)), (0, .inr (4, some 0))]) (st' := [.inl (.int 12), .inl (.int (nI k))]) ⟨dL_law_81, dL_law_83, trivial⟩ rfl rfl ?_
      refine wl_icmp_ge (tgt := 103) dL_law_85 (by decide) (fun h85 => ?_) (fun h85 => ?_)
      · have h85 : (12 : Int) ≤ ((k : Nat) : Int) := (c_le (by decide : (12 : Int32).toInt = 12) (nI_toInt (by omega))).mp h85
        refine wq_run [(.iload 8, 2), (.bipush 12, 2)] (pc' := 107) (L' := [(8, .inl (.int (nI j69))), (7, .inl (.int x2)), (6, .inl (.int x1)), (5, .inl (.int (nI k))), (4, .inl (.int 1)), (3, .inr (3, some 0)), (2, .inr (2, some 0)), (1, .inr (1, some 0)), (0, .inr (4, some 0))]) (st' := [.inl (.int 12), .inl (.int (nI j69))]) ⟨dL_law_103, dL_law_105, trivial⟩ rfl rfl ?_
        refine wl_icmp_ge (tgt := 125) dL_law_107 (by decide) (fun h107 => ?_) (fun h107 => ?_)
        · have h107 : (12 : Int) ≤ ((j69 : Nat) : Int) := (c_le (by decide : (12 : Int32).toInt = 12) (nI_toInt (by omega))).mp h107
          refine wq_run [(.iload 8, 2), (.bipush 16, 2)] (pc' := 129) (L' := [(8, .inl (.int (nI j69))), (7, .inl (.int x2)), (6, .inl (.int x1)), (5, .inl (.int (nI k))), (4, .inl (.int 1)), (3, .inr (3, some 0)), (2, .inr (2, some 0)), (1, .inr (1, some 0)), (0, .inr (4, some 0))]) (st' := [.inl (.int 16), .inl (.int (nI j69))]) ⟨dL_law_125, dL_law_127, trivial⟩ rfl rfl ?_
          refine wl_icmp_ge (tgt := 147) dL_law_129 (by decide) (fun h129 => ?_) (fun h129 => ?_)
          · have h129 : (16 : Int) ≤ ((j69 : Nat) : Int) := (c_le (by decide : (16 : Int32).toInt = 16) (nI_toInt (by omega))).mp h129
            refine wq_run [(.aload_n 1, 1), (.aload_n 2, 1), (.aload_n 3, 1), (.iload 6, 2), (.iconst 5, 1), (.ishr, 1), (.iload 7, 2)] (pc' := 156) (L' := [(8, .inl (.int (nI j69))), (7, .inl (.int x2)), (6, .inl (.int x1)), (5, .inl (.int (nI k))), (4, .inl (.int 1)), (3, .inr (3, some 0)), (2, .inr (2, some 0)), (1, .inr (1, some 0)), (0, .inr (4, some 0))]) (st' := [.inl (.int x2), .inl (.int (x1 >>> (5 &&& 31))), .inr (3, some 0), .inr (2, some 0), .inr (1, some 0)]) ⟨dL_law_147, dL_law_148, dL_law_149, dL_law_150, dL_law_152, dL_law_153, dL_law_154, trivial⟩ rfl rfl ?_
            refine WL.room (uc' := A + 3300 + 400) (us' := B + 18200 + 4000) (by omega) (by omega) ?_
            refine wl_static (M := M_L_law) (uc := A + 3300) (us := B + 18200) (bc := 400) (bs := 4000) (As := [.inr (1, some 0), .inr (2, some 0), .inr (3, some 0), .inl (.int (x1 >>> (5 &&& 31))), .inl (.int x2)]) (rest := []) (ok_L_bookings _ _) ml_L_154 st_L_bookings (by omega) (c_bookings (d := d - 1) (by omega) I (x1 >>> (5 &&& 31)) x2) rfl rfl (Nat.le_of_ble_eq_true rfl) dL_law_156 (fun r9 h9 e9 => ?_) (fun E9 h9 e9 => nomatch e9.1)
            obtain ⟨e9, h1, D1, e8, I1⟩ := e9
            subst e8
            cases e9
            refine wq_sub [3, 4, 5, 6, 7, 8] (L' := [(5, .inl (.int (nI k))), (4, .inl (.int 1)), (3, .inr (3, some 0)), (2, .inr (2, some 0)), (1, .inr (1, some 0)), (0, .inr (4, some 0))]) rfl ?_
            refine WL.room (uc' := A + 2600) (us' := B + 15700) (by omega) (by omega) ?_
            exact law_tail (uc := A) (us := B) hd (by omega) I1 (ih (k + 1) A B _ _ (by omega) (Nat.le_refl _) (Nat.le_refl _) I1)
          · have h129 : ¬ ((16 : Int) ≤ ((j69 : Nat) : Int)) := fun z => h129 ((c_le (by decide : (16 : Int32).toInt = 16) (nI_toInt (by omega))).mpr z)
            refine wq_run [(.aload_n 1, 1), (.aload_n 2, 1), (.aload_n 3, 1), (.iload 6, 2), (.iconst 5, 1), (.ishr, 1), (.iload 7, 2)] (pc' := 141) (L' := [(8, .inl (.int (nI j69))), (7, .inl (.int x2)), (6, .inl (.int x1)), (5, .inl (.int (nI k))), (4, .inl (.int 1)), (3, .inr (3, some 0)), (2, .inr (2, some 0)), (1, .inr (1, some 0)), (0, .inr (4, some 0))]) (st' := [.inl (.int x2), .inl (.int (x1 >>> (5 &&& 31))), .inr (3, some 0), .inr (2, some 0), .inr (1, some 0)]) ⟨dL_law_132, dL_law_133, dL_law_134, dL_law_135, dL_law_137, dL_law_138, dL_law_139, trivial⟩ rfl rfl ?_
            refine WL.room (uc' := A + 2600 + 1100) (us' := B + 15700 + 6500) (by omega) (by omega) ?_
            refine wl_static (M := M_L_law) (uc := A + 2600) (us := B + 15700) (bc := 1100) (bs := 6500) (As := [.inr (1, some 0), .inr (2, some 0), .inr (3, some 0), .inl (.int (x1 >>> (5 &&& 31))), .inl (.int x2)]) (rest := []) (ok_L_ways _ _) ml_L_151 st_L_ways (by omega) (c_ways (d := d - 1) (by omega) I (x1 >>> (5 &&& 31)) x2) rfl rfl (Nat.le_of_ble_eq_true rfl) dL_law_141 (fun r9 h9 e9 => ?_) (fun E9 h9 e9 => nomatch e9.1)
            obtain ⟨e9, h1, D1, e8, I1⟩ := e9
            subst e8
            cases e9
            refine wl_goto (tgt := 159) dL_law_144 (by decide) ?_
            refine wq_sub [3, 4, 5, 6, 7, 8] (L' := [(5, .inl (.int (nI k))), (4, .inl (.int 1)), (3, .inr (3, some 0)), (2, .inr (2, some 0)), (1, .inr (1, some 0)), (0, .inr (4, some 0))]) rfl ?_
            refine WL.room (uc' := A + 2600) (us' := B + 15700) (by omega) (by omega) ?_
            exact law_tail (uc := A) (us := B) hd (by omega) I1 (ih (k + 1) A B _ _ (by omega) (Nat.le_refl _) (Nat.le_refl _) I1)
        · have h107 : ¬ ((12 : Int) ≤ ((j69 : Nat) : Int)) := fun z => h107 ((c_le (by decide : (12 : Int32).toInt = 12) (nI_toInt (by omega))).mpr z)
          refine wq_run [(.aload_n 1, 1), (.aload_n 2, 1), (.aload_n 3, 1), (.iload 6, 2), (.iconst 5, 1), (.ishr, 1), (.iload 7, 2)] (pc' := 119) (L' := [(8, .inl (.int (nI j69))), (7, .inl (.int x2)), (6, .inl (.int x1)), (5, .inl (.int (nI k))), (4, .inl (.int 1)), (3, .inr (3, some 0)), (2, .inr (2, some 0)), (1, .inr (1, some 0)), (0, .inr (4, some 0))]) (st' := [.inl (.int x2), .inl (.int (x1 >>> (5 &&& 31))), .inr (3, some 0), .inr (2, some 0), .inr (1, some 0)]) ⟨dL_law_110, dL_law_111, dL_law_112, dL_law_113, dL_law_115, dL_law_116, dL_law_117, trivial⟩ rfl rfl ?_
          refine WL.room (uc' := A + 3640 + 60) (us' := B + 21200 + 1000) (by omega) (by omega) ?_
          refine wl_static (M := M_L_law) (uc := A + 3640) (us := B + 21200) (bc := 60) (bs := 1000) (As := [.inr (1, some 0), .inr (2, some 0), .inr (3, some 0), .inl (.int (x1 >>> (5 &&& 31))), .inl (.int x2)]) (rest := []) (ok_L_runs _ _) ml_L_149 st_L_runs (by omega) (c_runs (d := d - 1) (by omega) I (x1 >>> (5 &&& 31)) x2) rfl rfl (Nat.le_of_ble_eq_true rfl) dL_law_119 (fun r9 h9 e9 => ?_) (fun E9 h9 e9 => nomatch e9.1)
          obtain ⟨e9, h1, D1, e8, I1⟩ := e9
          subst e8
          cases e9
          refine wl_goto (tgt := 159) dL_law_122 (by decide) ?_
          refine wq_sub [3, 4, 5, 6, 7, 8] (L' := [(5, .inl (.int (nI k))), (4, .inl (.int 1)), (3, .inr (3, some 0)), (2, .inr (2, some 0)), (1, .inr (1, some 0)), (0, .inr (4, some 0))]) rfl ?_
          refine WL.room (uc' := A + 2600) (us' := B + 15700) (by omega) (by omega) ?_
          exact law_tail (uc := A) (us := B) hd (by omega) I1 (ih (k + 1) A B _ _ (by omega) (Nat.le_refl _) (Nat.le_refl _) I1)
      · have h85 : ¬ ((12 : Int) ≤ ((k : Nat) : Int)) := fun z => h85 ((c_le (by decide : (12 : Int32).toInt = 12) (nI_toInt (by omega))).mpr z)
        refine wq_run [(.aload_n 1, 1), (.aload_n 2, 1), (.aload_n 3, 1), (.iload 6, 2), (.iconst 5, 1), (.ishr, 1), (.iload 7, 2)] (pc' := 97) (L' := [(8, .inl (.int (nI j69))), (7, .inl (.int x2)), (6, .inl (.int x1)), (5, .inl (.int (nI k))), (4, .inl (.int 1)), (3, .inr (3, some 0)), (2, .inr (2, some 0)), (1, .inr (1, some 0)), (0, .inr (4, some 0))]) (st' := [.inl (.int x2), .inl (.int (x1 >>> (5 &&& 31))), .inr (3, some 0), .inr (2, some 0), .inr (1, some 0)]) ⟨dL_law_88, dL_law_89, dL_law_90, dL_law_91, dL_law_93, dL_law_94, dL_law_95, trivial⟩ rfl rfl ?_
        refine WL.room (uc' := A + 3640 + 60) (us' := B + 21200 + 1000) (by omega) (by omega) ?_
        refine wl_static (M := M_L_law) (uc := A + 3640) (us := B + 21200) (bc := 60) (bs := 1000) (As := [.inr (1, some 0), .inr (2, some 0), .inr (3, some 0), .inl (.int (x1 >>> (5 &&& 31))), .inl (.int x2)]) (rest := []) (ok_L_land _ _) ml_L_145 st_L_land (by omega) (c_land (d := d - 1) (by omega) I (x1 >>> (5 &&& 31)) x2) rfl rfl (Nat.le_of_ble_eq_true rfl) dL_law_97 (fun r9 h9 e9 => ?_) (fun E9 h9 e9 => nomatch e9.1)
        obtain ⟨e9, h1, D1, e8, I1⟩ := e9
        subst e8
        cases e9
        refine wl_goto (tgt := 159) dL_law_100 (by decide) ?_
        refine wq_sub [3, 4, 5, 6, 7, 8] (L' := [(5, .inl (.int (nI k))), (4, .inl (.int 1)), (3, .inr (3, some 0)), (2, .inr (2, some 0)), (1, .inr (1, some 0)), (0, .inr (4, some 0))]) rfl ?_
        refine WL.room (uc' := A + 2600) (us' := B + 15700) (by omega) (by omega) ?_
        exact law_tail (uc := A) (us := B) hd (by omega) I1 (ih (k + 1) A B _ _ (by omega) (Nat.le_refl _) (Nat.le_refl _) I1)
theorem law_main {g : GT} {d : Nat} (hd : 19 ≤ d) {S : Nat → Int32} {N : Nat} (hN : N ≤ 260) {Φ : Rs → Wd → Prop} {h : Hp} {D : Nat → Int32} (I : IV h D) : WL g M_L_law d 350000 2100000 21 [(3, .inr (3, some 0)), (2, .inr (2, some 0)), (1, .inr (1, some 0)), (0, .inr (4, some 0))] [] (h, h, D, S, N) Φ := by
  refine wq_run [(.aload_n 1, 1), (.aload_n 3, 1)] (pc' := 23) (L' := [(3, .inr (3, some 0)), (2, .inr (2, some 0)), (1, .inr (1, some 0)), (0, .inr (4, some 0))]) (st' := [.inr (3, some 0), .inr (1, some 0)]) ⟨dL_law_21, dL_law_22, trivial⟩ rfl rfl ?_
  refine wl_static (M := M_L_law) (uc := 348500) (us := 2090500) (bc := 1500) (bs := 9500) (As := [.inr (1, some 0), .inr (3, some 0)]) (rest := []) (ok_L_refused _ _) ml_L_137 st_L_refused (by omega) (c_refused (d := d - 1) (by omega) I) rfl rfl (Nat.le_of_ble_eq_true rfl) dL_law_23 (fun r9 h9 e9 => ?_) (fun E9 h9 e9 => nomatch e9.1)
  obtain ⟨e9, rfl⟩ := e9
  cases e9
  refine wq_run [(.istore 4, 2), (.iconst 0, 1), (.istore 5, 2)] (pc' := 31) (L' := [(5, .inl (.int 0)), (4, .inl (.int 1)), (3, .inr (3, some 0)), (2, .inr (2, some 0)), (1, .inr (1, some 0)), (0, .inr (4, some 0))]) (st' := []) ⟨dL_law_26, dL_law_28, dL_law_29, trivial⟩ rfl rfl ?_
  refine wq_sub [0, 1, 2, 3, 4, 5] (L' := [(5, .inl (.int 0)), (4, .inl (.int 1)), (3, .inr (3, some 0)), (2, .inr (2, some 0)), (1, .inr (1, some 0)), (0, .inr (4, some 0))]) rfl ?_
  exact law_loop hd hN 90 0 _ _ _ _ (by omega) (by omega) (by omega) I
