/-! ===== own: rows of the law ===== -/
section LAWROWS
variable {g : GT} {M : MT} {d uc us pc : Nat} {L : List (Nat × AV)} {st : List AV} {h : Hp} {Φ : Rs → Hp → Prop}
/-- what the tables say of a call of M', that catches, n arguments -/
def CallOkH (M' : MT) (n : Nat) : Prop :=
  mH M' ≠ [] ∧ mN M' ≤ 40 ∧ Cond.codeWith (mY M') (mC M') (mN M') (mR M') (mH M') ∈ lw_tbl ∧ Cond.initialized (mY M').cls ∈ lw_tbl ∧ ((mY M').cls ≠ "java/lang/invoke/MethodHandle" ∧ (mY M').cls ≠ "java/lang/invoke/VarHandle") ∧ (parseMethodDescriptor (mY M').desc).map (fun d => d.parameters.length) = some n
/-- a static call of a method that catches -/
theorem wx_staticHC {M' : MT} {index n d' bc bs : Nat} {As rest : List AV} {r0 : Option AV} {h0 : Hp} (hok : CallOkH M' n) (hl : Cond.methodLink (mO M) index (mY M') ∈ lw_tbl) (hst9 : Cond.static (mY M') ∈ lw_tbl) (hdd : d' + 1 ≤ d) (hC : Ctr g M' d' bc bs As h (cy_det (.inl r0) h0)) (hst : st = As.reverse ++ rest) (hn : As.length = n) (hr8 : (rest.map cy_ct).sum ≤ 8)
    (hd : decode (mC M) pc = .ok (.invokestatic index, 3)) (kk : WP g M d uc us (pc + 3) L (r0.toList ++ rest) h0 Φ) : WP g M d (uc + bc) (us + bs) pc L st h Φ := by
  subst hst
  refine wp_callc (rest := rest) (Ψ := cy_det (.inl r0) h0) (fun hg p e R s m args below meth c H locs cells slots ls ad hE hd9 hdl hc hs hR hlv hwS => ⟨(As.map (cy_cv ad)).toArray, ?_⟩) (fun cn hw v hv => hw v (List.mem_append_right _ hv)) (fun r h' e => by obtain ⟨e1, rfl⟩ := e; cases e1; exact kk) (fun E h' e => nomatch e.1)
  have hW := hE.2.2.2.2.2.2.1
  obtain ⟨hH, hN, hcode, hini, hne, hn9⟩ := hok
  have hw : cy_word M' = .codeWith (mY M') (mC M') (mN M') (mR M') (mH M') := by
    unfold cy_word
    split
    · rename_i q; exact absurd q hH
    · rename_i q; rfl
  refine vx_runSX (nL := mN M) (Ts := []) (hh := mH M') (index := index) (y := mY M') (bytes := mC M') (maxL := mN M') (ret := mR M') (n := n) ⟨hE.1, hE.2.1, hE.2.2.1, hE.2.2.2.2.1, fun w hw => by cases hw⟩ (hC hg ad (fun v hv => hwS v (List.mem_append_left _ (List.mem_reverse.mpr hv))))
    ⟨⟨rfl, rfl, by show d' + 1 ≤ _; omega, by show 8 + (_ + 11) + 64 * d' ≤ _; omega, fun w hw9 a' U hWU => ?_, by rw [hw]; exact List.mem_cons_self⟩, cy_wd hg hW hcode (by rfl), cy_wd hg hW hini (by rfl), hne, fun sig hs => ?_, cy_wd hg hW hl (by rfl), cy_wd hg hW hst9 (by rfl)⟩ ⟨cy_blind, fun U hU hWU => ⟨rfl, by rw [hU]; exact hR, State.WarmedH.trans hW hWU⟩⟩ rfl (by rw [List.length_map]; exact hn) hlv.1 cy_rev (lv_room (cy_cat hr8)) hd ⟨hc, hs⟩
  · rw [hw] at hw9
    have e : w = .codeWith (mY M') (mC M') (mN M') (mR M') (mH M') := by simpa using hw9
    rw [e]
    exact cy_wd hg (State.WarmedH.trans hW hWU) hcode (by rfl)
  · rw [hs] at hn9
    exact (Option.some.inj hn9).symm
/-- a number of the script -/
theorem wx_scr {i k n : Nat} {S : Nat → Int32} (hS : SCR S n h) (hk : i + k < n) (hn3 : n ≤ 3584) (hd : decode (mC M) pc = .ok (.iaload, 1))
    (kk : WP g M d uc us (pc + 1) L (.inl (.int (S (i + k))) :: st) h Φ) : WP g M d uc us pc L (.inl (.int (nI i + nI k)) :: .inr (16, some 0) :: st) h Φ := by
  refine wx_iald (Or.inr rfl) ?_ hd ?_
  · rw [nI_add]
    show vp_in _ (if (16 : Nat) = 16 then xLS h 16 else _)
    rw [if_pos rfl, hS.2]
    exact vp_in_nI hk (by omega)
  · rw [nI_add, nI_clamp (by omega), hS.1]
    exact kk
theorem wx_scr0 {i n : Nat} {S : Nat → Int32} (hS : SCR S n h) (hk : i < n) (hn3 : n ≤ 3584) (hd : decode (mC M) pc = .ok (.iaload, 1))
    (kk : WP g M d uc us (pc + 1) L (.inl (.int (S i)) :: st) h Φ) : WP g M d uc us pc L (.inl (.int (nI i)) :: .inr (16, some 0) :: st) h Φ := by
  refine wx_iald (Or.inr rfl) ?_ hd ?_
  · show vp_in _ (if (16 : Nat) = 16 then xLS h 16 else _)
    rw [if_pos rfl, hS.2]
    exact vp_in_nI hk (by omega)
  · rw [nI_clamp (by omega), hS.1]
    exact kk
/-- the law's end -/
theorem wx_lawret (hL : mL M = 1) (hC : mC M = code) (hR9 : mR M = ret) (hd : decode (mC M) pc = .ok (.ireturn, 1)) : WP g M d uc us pc L [.inl (.int 1)] h Φ := by
  intro hg p e R s m args below meth c H locs cells slots ls ad ad0 cn0 hE hd9 hdl hc hs hr hx hR hB hS hl hwL hwS
  have hL0 : mL M ≠ 0 := by rw [hL]; decide
  obtain ⟨⟨b, rfl⟩, hsz⟩ := hE.2.2.2.2.2.2.2.2 hL0
  obtain rfl := hr hL0
  simp only [cy_Fi, hL0, if_false]
  refine va_forget (fun q hq => Nat.le_trans hsz (hS.2.2 q hq)) ?_
  refine W.widen (k := 601024) (n := 7293034) (Nat.le_trans (Nat.le_add_right _ _) hc) (Nat.le_trans (Nat.le_add_right _ _) hs) ?_
  exact lw_ret (d0 := s.drawn) (Drawn.sameBut.refl s.drawn lw_cs) hE.1 (hE.2.1.trans hC) (hE.2.2.2.1.trans hR9) hE.2.2.2.2.2.1 (by rw [← hC]; exact hd)
theorem lgc_self (x : Int64) : lg_cmp x x = 0 := by
  unfold lg_cmp
  rw [if_neg Int64.lt_irrefl, if_pos rfl]
end LAWROWS
