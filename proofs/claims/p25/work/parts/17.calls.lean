section CALLS
variable {g : GT} {M : MT} {d uc us pc : Nat} {L : List (Nat × AV)} {st : List AV} {h : Hp} {Φ : Rs → Hp → Prop}
/-- an exception of class E leaves the instruction at pc -/
def WX (g : GT) (M : MT) (d uc us : Nat) (pc : Nat) (L : List (Nat × AV)) (h : Hp) (E : String) (Φ : Rs → Hp → Prop) : Prop :=
  SF g → ∀ (p : Program) (e : Env) (R : Room) (s : State) (m : MethodId) (args : Array Value) (below : List Frame) (meth : Method) (c : Code) (H : Heap) (locs : List Loc) (cells slots : Nat) (ls : Array Slot) (ad ad0 : Nat → Nat → Nat) (cn0 : Nat → Nat),
    cy_En g M p s m args meth c → d ≤ R.frames → 64 * d ≤ R.locals → cells + uc ≤ R.cells → slots + us ≤ R.slots → (mL M ≠ 0 → R = room_1) → Ext ad0 cn0 ad (xCN h) → Rel g ad h H → cy_B g ≤ s.heap.size → va_S (cy_A g) s.heap H locs →
    lv_has ls (mN M) (L.map (fun q => (q.1, cy_cv ad q.2))) → (∀ q ∈ L, cy_wf (xCN h) q.2) → ∀ (q : Addr) (ce : Cell) (rest : List Value), H[q]? = some ce → ce.vm = .none → s.vm.findClass E = some ce.cls →
    vx_W p (cy_l g) e R s m args below meth c H locs cells slots (cy_Fi g M Φ ad0 cn0 below args s R) (F0 m pc ls rest) q
/-- not caught here -/
theorem wx_out {E : String} (hL : mL M = 0) (ht : ∀ x ∈ tableOf (mH M), covers x pc = false) (hΦ : Φ (.inr E) h) : WX g M d uc us pc L h E Φ := by
  intro hg p e R s m args below meth c H locs cells slots ls ad ad0 cn0 hE hd hdl hc hs hr hx hR hB hS hl hwL q ce rest h1 h2 h3
  simp only [cy_Fi, hL, if_true]
  exact vx_out (by rw [(hE.2.2.2.2.2.2.2.1 hL).2]; exact ht) hE.2.2.2.2.2.1 h1 h2 h3 (fun t ht _ => ⟨by rw [ht]; exact hS.1, h, ad, hΦ, by rw [ht]; exact hR, hx⟩) hS.2.2 (by omega) (by omega)
/-- caught here, by the row x -/
theorem wx_catch {E name : String} (hL : mL M = 0) (pre : List ExceptionTableEntry) (x : ExceptionTableEntry) (suf : List ExceptionTableEntry) (ht : tableOf (mH M) = pre ++ x :: suf)
    (hpass : ∀ z ∈ pre, covers z pc = false ∨ (z.catchType ≠ 0 ∧ ∃ nm : String, Cond.classLink (mO M) z.catchType nm ∈ lw_tbl ∧ (E, nm) ∈ cy_ncs)) (hx9 : covers x pc = true) (h0 : x.catchType ≠ 0)
    (hw : Cond.classLink (mO M) x.catchType name ∈ lw_tbl) (hcast : Cond.castable E name ∈ lw_tbl) (kk : ∀ q : Nat, WP g M d uc us x.handlerPc L [.inl (.ref q)] h Φ) : WX g M d uc us pc L h E Φ := by
  intro hg p e R s m args below meth c H locs cells slots ls ad ad0 cn0 hE hd hdl hc hs hr hx hR hB hS hl hwL q ce rest h1 h2 h3
  have hW := hE.2.2.2.2.2.2.1
  have hcs : (Cond.castable E name).before args s = true := va_Nw.use rfl (va_Nw.warmC hW (va_Nw.of rfl (hg.2.1 _ hcast)))
  refine vx_catch hE.2.2.2.2.1 pre x suf (by rw [(hE.2.2.2.2.2.2.2.1 hL).2]; exact ht) (fun z hz => ?_) hx9 h0 (cy_wd hg hW hw (by rfl)) hcs h1 h2 h3
    (kk q hg p e R s m args below meth c H locs cells slots ls ad ad0 cn0 hE hd hdl hc hs hr hx hR hB hS hl hwL (fun v hv => by rcases List.mem_cons.mp hv with rfl | hv; exact trivial; cases hv))
  rcases hpass z hz with h | ⟨g1, nm, g2, g3⟩
  · exact Or.inl h
  · exact Or.inr ⟨g1, nm, cy_wd hg hW g2 (by rfl), va_Nc.moved hW.alike (hg.2.2.2.2.2.2.2.2.1 _ g3)⟩
theorem cy_old {g : GT} {ad : Nat → Nat → Nat} {h : Hp} {H : Heap} {s : State} {locs : List Loc} (hR : Rel g ad h H) (hB : cy_B g ≤ s.heap.size) (hS : va_S (cy_A g) s.heap H locs) : ∀ q, q < cy_B g → s.heap[q]? = (cy_s g).heap[q]? := fun q hq => by
  rw [← hR.2.2.2.2.2.2.2.1 q hq]
  exact (hS.2.1 q (Nat.lt_of_lt_of_le hq hB) (Nat.not_le.mpr hq)).symm
theorem Rel.grow {g : GT} {ad : Nat → Nat → Nat} {h : Hp} {H H1 : Heap} (hR : Rel g ad h H) (hz : H.size ≤ H1.size) (ho : ∀ q, q < H.size → H1[q]? = H[q]?) : Rel g ad h H1 := by
  have hRR := hR
  obtain ⟨r1, r2, r3, r4, r5, r6, r7, r8, r9, r10, r11, r12⟩ := hR
  refine ⟨fun s i hi => ?_, r2, r3, r4, r5, r6, Nat.le_trans r7 hz, fun q hq => by rw [ho q (Nat.lt_of_lt_of_le hq r7)]; exact r8 q hq, r9, r10, r11, fun q hq => ⟨Nat.lt_of_lt_of_le (r12 q hq).1 hz, by rw [ho q (r12 q hq).1]; exact (r12 q hq).2⟩⟩
  have h0 := r1 s i hi
  have hlt := cy_ok_lt hRR hi
  unfold cy_ok at h0 ⊢
  split at h0
  · rename_i h8; rw [if_pos h8]; exact h0.kept (ho _ hlt)
  · rename_i h8; rw [if_neg h8]; exact h0.kept (ho _ hlt)
def cy_gw (w : Cond) : Bool := goodWord w || (match w with | .castable _ _ => true | .declares _ => true | _ => false)
theorem cy_wd2 {g : GT} (hg : SF g) {s : State} {args : Array Value} (hW : (cy_s g).WarmedH s.vm) {w : Cond} (hw : w ∈ lw_tbl) (hgood : cy_gw w = true) : w.before args s = true := by
  unfold cy_gw at hgood
  rcases (Bool.or_eq_true _ _).mp hgood with h | h
  · exact cy_wd hg hW hw h
  · split at h
    · exact va_Nw.use rfl (va_Nw.warmC hW (va_Nw.of rfl (hg.2.1 _ hw)))
    · exact va_tabs (A := cy_a g) rfl (rfl : ((cy_s g).setVm s.vm).vm = s.vm) (by rw [Cond.declares_setVm hW.alike]; exact hg.2.1 _ hw)
    · cases h
theorem cy_zq {g : GT} {C n dd : String} {s : State} (hZ : vx_Zq C n dd (cy_A g) (cy_s g) (cy_s g).heap) (hW : (cy_s g).WarmedH s.vm) (hold : ∀ q, q < cy_B g → s.heap[q]? = (cy_s g).heap[q]?) : vx_Zq C n dd (cy_A g) s s.heap :=
  vx_Zq.moved hW.alike (hZ.kept fun q hq _ => hold q hq)
abbrev cy_sup : List String := ["java/lang/RuntimeException", "java/lang/Exception"]
/-- new E(text) thrown, text by ldc -/
theorem wx_throwS {E text : String} {ik is ic : Nat} (hO : mO M = "Connectory") (hL : mL M = 0) (hH : mH M = []) (hd6 : 6 ≤ d) (hcls : Bundle.fit E = true) (hk : Cond.classLink "Connectory" ik E ∈ lw_tbl) (hini : Cond.initialized E ∈ lw_tbl) (hstr : (is, text) ∈ cy_strs)
    (hat : ∀ w ∈ Cond.classLink "Connectory" ik E :: Cond.initialized E :: vx_atS "Connectory" ic E cy_sup, w ∈ lw_tbl ∧ cy_gw w = true ∧ vx_ot w = true) (hst : (st.map cy_ct).sum ≤ 8)
    (d0 : decode (mC M) pc = .ok (.new ik, 3)) (d3 : decode (mC M) (pc + 3) = .ok (.dup, 1)) (d4 : decode (mC M) (pc + 4) = .ok (.ldc is, 2)) (d6 : decode (mC M) (pc + 6) = .ok (.invokespecial ic, 3)) (d9 : decode (mC M) (pc + 9) = .ok (.athrow, 1))
    (hΦ : Φ (.inr E) h) : WP g M d (uc + 1) (us + 6) pc L st h Φ := by
  intro hg p e R s m args below meth c H locs cells slots ls ad ad0 cn0 hE hd hdl hc hs hr hx hR hB hS hl hwL hwS
  have hW := hE.2.2.2.2.2.2.1
  obtain ⟨sa, hsa⟩ := hg.2.2.2.2.2.2.2.1 _ hstr
  have hold := cy_old hR hB hS
  simp only [cy_Fi, hL, if_true]
  have hct : ((st.map (cy_cv ad)).map fun v => v.category).sum = (st.map cy_ct).sum := by
    rw [List.map_map]; congr 1; exact List.map_congr_left fun v _ => cy_ct_cv ad v
  refine vx_throwS (own := "Connectory") (names := cy_sup) hE.1 hE.2.1 hg.1 (by rw [← hO]; exact hE.2.2.2.2.1) hcls (by decide) (cy_wd hg hW hk (by rfl)) (cy_wd hg hW hini (by rfl)) (vk_R.warm hW hsa) (fun w hw => cy_wd2 hg hW (hat w (List.mem_cons_of_mem _ (List.mem_cons_of_mem _ hw))).1 (hat w (List.mem_cons_of_mem _ (List.mem_cons_of_mem _ hw))).2.1) (fun w hw => (hat w hw).2.2)
    (cy_zq hg.2.2.2.1 hW hold) (cy_zq hg.2.2.2.2.1 hW hold) hS (by rw [hl.1, hE.2.2.1]) d0 d3 d4 d6 d9 (by rw [(hE.2.2.2.2.2.2.2.1 hL).2, hH]; intro x hx; cases hx) (by show 2 + 3 < _; omega) (by rw [hct]; show _ + (13 * (2 + 1) + 43) ≤ _; omega) (by omega) (by omega) hE.2.2.2.2.2.1
    (fun t _ hz ho => ⟨Nat.le_trans hS.1 hz, h, ad, hΦ, hR.grow hz ho, hx⟩) hS.2.2 (by omega) (by omega)
/-- the same, text by ldc_w -/
theorem wx_throwW {E text : String} {ik is ic : Nat} (hO : mO M = "Connectory") (hL : mL M = 0) (hH : mH M = []) (hd6 : 6 ≤ d) (hcls : Bundle.fit E = true) (hk : Cond.classLink "Connectory" ik E ∈ lw_tbl) (hini : Cond.initialized E ∈ lw_tbl) (hstr : (is, text) ∈ cy_strs)
    (hat : ∀ w ∈ Cond.classLink "Connectory" ik E :: Cond.initialized E :: vx_atS "Connectory" ic E cy_sup, w ∈ lw_tbl ∧ cy_gw w = true ∧ vx_ot w = true) (hst : (st.map cy_ct).sum ≤ 8)
    (d0 : decode (mC M) pc = .ok (.new ik, 3)) (d3 : decode (mC M) (pc + 3) = .ok (.dup, 1)) (d4 : decode (mC M) (pc + 4) = .ok (.ldc_w is, 3)) (d6 : decode (mC M) (pc + 7) = .ok (.invokespecial ic, 3)) (d9 : decode (mC M) (pc + 10) = .ok (.athrow, 1))
    (hΦ : Φ (.inr E) h) : WP g M d (uc + 1) (us + 6) pc L st h Φ := by
  intro hg p e R s m args below meth c H locs cells slots ls ad ad0 cn0 hE hd hdl hc hs hr hx hR hB hS hl hwL hwS
  have hW := hE.2.2.2.2.2.2.1
  obtain ⟨sa, hsa⟩ := hg.2.2.2.2.2.2.2.1 _ hstr
  have hold := cy_old hR hB hS
  simp only [cy_Fi, hL, if_true]
  have hct : ((st.map (cy_cv ad)).map fun v => v.category).sum = (st.map cy_ct).sum := by
    rw [List.map_map]; congr 1; exact List.map_congr_left fun v _ => cy_ct_cv ad v
  refine vx_throwSW (own := "Connectory") (names := cy_sup) hE.1 hE.2.1 hg.1 (by rw [← hO]; exact hE.2.2.2.2.1) hcls (by decide) (cy_wd hg hW hk (by rfl)) (cy_wd hg hW hini (by rfl)) (vk_R.warm hW hsa) (fun w hw => cy_wd2 hg hW (hat w (List.mem_cons_of_mem _ (List.mem_cons_of_mem _ hw))).1 (hat w (List.mem_cons_of_mem _ (List.mem_cons_of_mem _ hw))).2.1) (fun w hw => (hat w hw).2.2)
    (cy_zq hg.2.2.2.1 hW hold) (cy_zq hg.2.2.2.2.1 hW hold) hS (by rw [hl.1, hE.2.2.1]) d0 d3 d4 d6 d9 (by rw [(hE.2.2.2.2.2.2.2.1 hL).2, hH]; intro x hx; cases hx) (by show 2 + 3 < _; omega) (by rw [hct]; show _ + (13 * (2 + 1) + 43) ≤ _; omega) (by omega) (by omega) hE.2.2.2.2.2.1
    (fun t _ hz ho => ⟨Nat.le_trans hS.1 hz, h, ad, hΦ, hR.grow hz ho, hx⟩) hS.2.2 (by omega) (by omega)
/-- a call's two ways on -/
theorem wp_callc {bc bs : Nat} {rest : List AV} {Ψ : Rs → Hp → Prop}
    (hrun : SF g → ∀ (p : Program) (e : Env) (R : Room) (s : State) (m : MethodId) (args : Array Value) (below : List Frame) (meth : Method) (c : Code) (H : Heap) (locs : List Loc) (cells slots : Nat) (ls : Array Slot) (ad : Nat → Nat → Nat),
      cy_En g M p s m args meth c → d ≤ R.frames → 64 * d ≤ R.locals → cells + bc ≤ R.cells → slots + bs ≤ R.slots → Rel g ad h H → lv_has ls (mN M) (L.map (fun q => (q.1, cy_cv ad q.2))) → (∀ v ∈ st, cy_wf (xCN h) v) →
      ∃ a : Array Value, vx_Run p (cy_l g) e R s m args below meth c H locs cells slots bc bs (F0 m pc ls (st.map (cy_cv ad))) (rest.map (cy_cv ad)) (cy_Qc g Ψ ad (xCN h) a) (cy_XC g Ψ ad (xCN h)) (cy_A g))
    (hrest : ∀ cn : Nat → Nat, (∀ v ∈ st, cy_wf cn v) → ∀ v ∈ rest, cy_wf cn v)
    (kk : ∀ (r : Option AV) (h' : Hp), Ψ (.inl r) h' → WP g M d uc us (pc + 3) L (r.toList ++ rest) h' Φ) (kx : ∀ (E : String) (h' : Hp), Ψ (.inr E) h' → WX g M d uc us pc L h' E Φ) : WP g M d (uc + bc) (us + bs) pc L st h Φ := by
  intro hg p e R s m args below meth c H locs cells slots ls ad ad0 cn0 hE hd hdl hc hs hr hx hR hB hS hl hwL hwS
  obtain ⟨a, hrun⟩ := hrun hg p e R s m args below meth c H locs cells slots ls ad hE hd hdl (by omega) (by omega) hR hl hwS
  have hold := cy_old hR hB hS
  intro T hT X
  have hS9 : ∀ {t T' : State} {L' : List Loc} {ad' : Nat → Nat → Nat} {h' : Hp}, T'.heap = t.heap → H.size ≤ t.heap.size → Rel g ad' h' t.heap → (∀ q ∈ L', cy_A g q.base) → va_S (cy_A g) s.heap T'.heap (locs ++ L') := by
    intro t T' L' ad' h' e1 hz hR' hL'
    refine ⟨by rw [e1]; exact Nat.le_trans hS.1 hz, fun q h1 h2 => ?_, fun q hq => ?_⟩
    · have hq : q < cy_B g := Nat.not_le.mp h2
      rw [e1, hR'.2.2.2.2.2.2.2.1 q hq, hold q hq]
    · rcases List.mem_append.mp hq with h | h
      · exact hS.2.2 q h
      · exact hL' q h
  rcases hrun T hT X with ⟨v, st₀, t, T', L', h0, X', hL', e1, e2, ⟨hz, r, h', ad', hΨ, hv, hwr, hR', hX'⟩, st9⟩ | ⟨q, st₀, t, T', L', E, ce, h0, X', hL', e1, e2, ⟨hz, h', ad', hΨ, hR', hX'⟩, hce, hcv, hcl, st9⟩
  · rw [h0] at hz
    cases hv
    have hwR := hrest _ hwS
    have hLm : (L.map (fun q => (q.1, cy_cv ad q.2))) = L.map (fun q => (q.1, cy_cv ad' q.2)) := List.map_congr_left fun q hq => by rw [cy_cv_ext hX' (hwL q hq)]
    have hrm : (rest.map (cy_cv ad)) = rest.map (cy_cv ad') := List.map_congr_left fun v hv => (cy_cv_ext hX' (hwR v hv)).symm
    obtain ⟨t2, a1, b1⟩ := kk r h' hΨ hg p e R s m args below meth c T'.heap (locs ++ L') (cells + bc) (slots + bs) ls ad' ad0 cn0 hE hd hdl (by omega) (by omega) hr (hx.trans hX') (by rw [e1]; exact hR') hB (hS9 e1 hz hR' hL') (by rw [← hLm]; exact hl) (fun q hq => cy_wf_ext hX' (hwL q hq))
      (fun v hv => by
        rcases List.mem_append.mp hv with hv | hv
        · exact hwr v (Option.mem_toList.mp hv)
        · exact cy_wf_ext hX' (hwR v hv)) T' rfl X'
    refine ⟨t2, st9 t2 ?_, b1⟩
    have e5 : (r.toList ++ rest).map (cy_cv ad') = (r.map (cy_cv ad')).toList ++ rest.map (cy_cv ad) := by
      rw [List.map_append, hrm]
      cases r <;> rfl
    rw [e5] at a1
    exact a1
  · rw [h0] at hz
    have hLm : (L.map (fun q => (q.1, cy_cv ad q.2))) = L.map (fun q => (q.1, cy_cv ad' q.2)) := List.map_congr_left fun q hq => by rw [cy_cv_ext hX' (hwL q hq)]
    obtain ⟨t2, a1, b1⟩ := kx E h' hΨ hg p e R s m args below meth c T'.heap (locs ++ L') (cells + bc) (slots + bs) ls ad' ad0 cn0 hE hd hdl (by omega) (by omega) hr (hx.trans hX') (by rw [e1]; exact hR') hB (hS9 e1 hz hR' hL') (by rw [← hLm]; exact hl) (fun q hq => cy_wf_ext hX' (hwL q hq)) q ce (rest.map (cy_cv ad)) (by rw [e1]; exact hce) hcv hcl T' rfl X'
    exact ⟨t2, st9.trans a1, b1⟩
/-- what the tables say of a call of M' from M, by the link at index; n arguments -/
def CallOk (M M' : MT) (index n : Nat) : Prop :=
  mH M' = [] ∧ mN M' ≤ 40 ∧ Cond.code (mY M') (mC M') (mN M') (mR M') ∈ lw_tbl ∧ Cond.initialized (mY M').cls ∈ lw_tbl ∧ ((mY M').cls ≠ "java/lang/invoke/MethodHandle" ∧ (mY M').cls ≠ "java/lang/invoke/VarHandle") ∧ (parseMethodDescriptor (mY M').desc).map (fun d => d.parameters.length) = some n
theorem cy_callB {M' : MT} {index n d' bc bs : Nat} {R : Room} {s : State} {args : Array Value} (hg : SF g) (hW : (cy_s g).WarmedH s.vm) (hok : CallOk M M' index n) (hl : Cond.methodLink (mO M) index (mY M') ∈ lw_tbl) (hdd : d' + 1 ≤ d) (hd : d ≤ R.frames) (hdl : 64 * d ≤ R.locals) :
    CallB R s args (mO M) index (mY M') (mC M') (mN M') (mR M') [cy_word M'] { frames := d', cells := bc, slots := bs, locals := 64 * d' } bc bs n := by
  obtain ⟨hH, hN, hcode, hini, hne, hn⟩ := hok
  have hw : cy_word M' = .code (mY M') (mC M') (mN M') (mR M') := by unfold cy_word; rw [hH]
  refine ⟨rfl, rfl, by show d' + 1 ≤ _; omega, by show 8 + (_ + 11) + 64 * d' ≤ _; omega, fun w hw9 a' U hWU => ?_, by rw [hw]; exact List.mem_cons_self, cy_wd hg hW hcode (by rfl), cy_wd hg hW hini (by rfl), hne, fun sig hs => ?_, cy_wd hg hW hl (by rfl)⟩
  · rw [hw] at hw9
    have e : w = .code (mY M') (mC M') (mN M') (mR M') := by simpa using hw9
    rw [e]
    exact cy_wd hg (State.WarmedH.trans hW hWU) hcode (by rfl)
  · rw [hs] at hn
    exact (Option.some.inj hn).symm
theorem cy_blind {av : List Value} {ad : Nat → Nat → Nat} : FrameBlind (va_Pc av (fun U => Rel g ad h U.heap ∧ (cy_s g).WarmedH U.vm)) := by
  intro a U f mk ⟨h1, h2, h3⟩
  exact ⟨h1, h2, h3⟩
theorem cy_rev {ad : Nat → Nat → Nat} {As rest : List AV} : (As.reverse ++ rest).map (cy_cv ad) = (As.map (cy_cv ad)).reverse ++ rest.map (cy_cv ad) := by
  rw [List.map_append, List.map_reverse]
theorem cy_cat {ad : Nat → Nat → Nat} {rest : List AV} (hr : (rest.map cy_ct).sum ≤ 8) : ((rest.map (cy_cv ad)).map fun v => v.category).sum ≤ 8 := by
  have e : ((rest.map (cy_cv ad)).map fun v => v.category).sum = (rest.map cy_ct).sum := by
    rw [List.map_map]; congr 1; exact List.map_congr_left fun v _ => cy_ct_cv ad v
  rw [e]; exact hr
/-- a static call -/
theorem wx_static {M' : MT} {index n d' bc bs : Nat} {As rest : List AV} {Ψ : Rs → Hp → Prop} (hok : CallOk M M' index n) (hl : Cond.methodLink (mO M) index (mY M') ∈ lw_tbl) (hst9 : Cond.static (mY M') ∈ lw_tbl) (hdd : d' + 1 ≤ d) (hC : Ctr g M' d' bc bs As h Ψ) (hst : st = As.reverse ++ rest) (hn : As.length = n) (hr8 : (rest.map cy_ct).sum ≤ 8)
    (hd : decode (mC M) pc = .ok (.invokestatic index, 3)) (kk : ∀ (r : Option AV) (h' : Hp), Ψ (.inl r) h' → WP g M d uc us (pc + 3) L (r.toList ++ rest) h' Φ) (kx : ∀ (E : String) (h' : Hp), Ψ (.inr E) h' → WX g M d uc us pc L h' E Φ) : WP g M d (uc + bc) (us + bs) pc L st h Φ := by
  subst hst
  refine wp_callc (rest := rest) (fun hg p e R s m args below meth c H locs cells slots ls ad hE hd9 hdl hc hs hR hlv hwS => ⟨(As.map (cy_cv ad)).toArray, ?_⟩) (fun cn hw v hv => hw v (List.mem_append_right _ hv)) kk kx
  have hW := hE.2.2.2.2.2.2.1
  refine vx_runS (nL := mN M) (Ts := []) ⟨hE.1, hE.2.1, hE.2.2.1, hE.2.2.2.2.1, fun w hw => by cases hw⟩ (hC hg ad (fun v hv => hwS v (List.mem_append_left _ (List.mem_reverse.mpr hv)))) ⟨cy_callB hg hW hok hl hdd hd9 hdl, cy_wd hg hW hst9 (by rfl)⟩ ⟨cy_blind, fun U hU hWU => ⟨rfl, by rw [hU]; exact hR, State.WarmedH.trans hW hWU⟩⟩ rfl (by rw [List.length_map]; exact hn) hlv.1 cy_rev (lv_room (cy_cat hr8)) hd ⟨hc, hs⟩
/-- a static call of a nest mate's private method -/
theorem wx_staticN {M' : MT} {index n d' bc bs : Nat} {host : String} {As rest : List AV} {Ψ : Rs → Hp → Prop} (hok : CallOk M M' index n) (hl : Cond.methodLinkNest (mO M) index (mY M') host ∈ lw_tbl) (hst9 : Cond.static (mY M') ∈ lw_tbl) (hdd : d' + 1 ≤ d) (hC : Ctr g M' d' bc bs As h Ψ) (hst : st = As.reverse ++ rest) (hn : As.length = n) (hr8 : (rest.map cy_ct).sum ≤ 8)
    (hd : decode (mC M) pc = .ok (.invokestatic index, 3)) (kk : ∀ (r : Option AV) (h' : Hp), Ψ (.inl r) h' → WP g M d uc us (pc + 3) L (r.toList ++ rest) h' Φ) (kx : ∀ (E : String) (h' : Hp), Ψ (.inr E) h' → WX g M d uc us pc L h' E Φ) : WP g M d (uc + bc) (us + bs) pc L st h Φ := by
  subst hst
  refine wp_callc (rest := rest) (fun hg p e R s m args below meth c H locs cells slots ls ad hE hd9 hdl hc hs hR hlv hwS => ⟨(As.map (cy_cv ad)).toArray, ?_⟩) (fun cn hw v hv => hw v (List.mem_append_right _ hv)) kk kx
  have hW := hE.2.2.2.2.2.2.1
  obtain ⟨hH, hN, hcode, hini, hne, hn9⟩ := hok
  have hw : cy_word M' = .code (mY M') (mC M') (mN M') (mR M') := by unfold cy_word; rw [hH]
  have hlN : (Cond.methodLinkNest (mO M) index (mY M') host).before args s = true := va_Nw.use rfl (va_Nw.warmM hW (va_Nw.of rfl (hg.2.1 _ hl)))
  refine vx_runSN (nL := mN M) (Ts := []) (host := host) (index := index) (y := mY M') (bytes := mC M') (maxL := mN M') (ret := mR M') (n := n) ⟨hE.1, hE.2.1, hE.2.2.1, hE.2.2.2.2.1, fun w hw => by cases hw⟩ (hC hg ad (fun v hv => hwS v (List.mem_append_left _ (List.mem_reverse.mpr hv))))
    ⟨⟨⟨rfl, rfl, by show d' + 1 ≤ _; omega, by show 8 + (_ + 11) + 64 * d' ≤ _; omega, fun w hw9 a' U hWU => ?_, by rw [hw]; exact List.mem_cons_self⟩, cy_wd hg hW hcode (by rfl), cy_wd hg hW hini (by rfl), hne, fun sig hs => ?_, hlN⟩, cy_wd hg hW hst9 (by rfl), trivial⟩ ⟨cy_blind, fun U hU hWU => ⟨rfl, by rw [hU]; exact hR, State.WarmedH.trans hW hWU⟩⟩ rfl (by rw [List.length_map]; exact hn) hlv.1 cy_rev (lv_room (cy_cat hr8)) hd ⟨hc, hs⟩
  · rw [hw] at hw9
    have e : w = .code (mY M') (mC M') (mN M') (mR M') := by simpa using hw9
    rw [e]
    exact cy_wd hg (State.WarmedH.trans hW hWU) hcode (by rfl)
  · rw [hs] at hn9
    exact (Option.some.inj hn9).symm
/-- a call on an object -/
theorem wx_virtual {M' : MT} {index n d' bc bs s i : Nat} {C : String} {T : u_T} {N : Nat} {ty : Nat → FieldType} {As rest : List AV} {Ψ : Rs → Hp → Prop} (hCl : ClsOk s C T N ty) (hCC : (mY M').cls = C) (hok : CallOk M M' index n) (hl : Cond.methodLink (mO M) index (mY M') ∈ lw_tbl) (hin : Cond.instanceMethod (mY M') ∈ lw_tbl) (hsel : Cond.selects C (mY M') (mY M') ∈ lw_tbl) (hdd : d' + 1 ≤ d) (hC : Ctr g M' d' bc bs (.inr (s, some i) :: As) h Ψ) (hst : st = As.reverse ++ .inr (s, some i) :: rest) (hn : As.length = n) (hr8 : (rest.map cy_ct).sum ≤ 8)
    (hd : decode (mC M) pc = .ok (.invokevirtual index, 3)) (kk : ∀ (r : Option AV) (h' : Hp), Ψ (.inl r) h' → WP g M d uc us (pc + 3) L (r.toList ++ rest) h' Φ) (kx : ∀ (E : String) (h' : Hp), Ψ (.inr E) h' → WX g M d uc us pc L h' E Φ) : WP g M d (uc + bc) (us + bs) pc L st h Φ := by
  subst hst
  refine wp_callc (rest := rest) (fun hg p e R s0 m args below meth c H locs cells slots ls ad hE hd9 hdl hc hs hR hlv hwS => ⟨((.inr (s, some i) :: As).map (cy_cv ad)).toArray, ?_⟩) (fun cn hw v hv => hw v (List.mem_append_right _ (List.mem_cons_of_mem _ hv))) kk kx
  have hW := hE.2.2.2.2.2.2.1
  have hwi : i < xCN h s := (hwS _ (List.mem_append_right _ List.mem_cons_self)).2.2 i rfl
  obtain ⟨c1, c2, c3, c4, c5, c6, c7⟩ := hCl
  have hwa : ∀ v ∈ (.inr (s, some i) :: As : List AV), cy_wf (xCN h) v := fun v hv => by
    rcases List.mem_cons.mp hv with rfl | hv
    · exact hwS _ (List.mem_append_right _ List.mem_cons_self)
    · exact hwS v (List.mem_append_left _ (List.mem_reverse.mpr hv))
  refine vx_runV (nL := mN M) (Ts := []) (C := C) (b := ad s i) (As := As.map (cy_cv ad)) ⟨hE.1, hE.2.1, hE.2.2.1, hE.2.2.2.2.1, fun w hw => by cases hw⟩ (hC hg ad hwa) ⟨cy_callB hg hW hok hl hdd hd9 hdl, cy_wd hg hW hin (by rfl), cy_wd hg hW hsel (by rfl)⟩ ⟨cy_blind, va_recv (cy_K hg hW) (cy_P1 (cy_obj hR hwi c6)) (q0 := 0) c1 rfl, fun U hU hWU => ⟨rfl, by rw [hU]; exact hR, State.WarmedH.trans hW hWU⟩⟩ rfl (by rw [List.length_map]; exact hn) hlv.1 cy_rev (lv_room (cy_cat hr8)) hd ⟨hc, hs⟩
/-- a constructor's call -/
theorem wx_ctor {M' : MT} {index n d' bc bs s i : Nat} {As rest : List AV} {Ψ : Rs → Hp → Prop} (hok : CallOk M M' index n) (hR9 : mR M' = none) (hY : (mY M').name = "<init>") (hl : Cond.methodLink (mO M) index (mY M') ∈ lw_tbl) (hin : Cond.instanceMethod (mY M') ∈ lw_tbl) (hdd : d' + 1 ≤ d) (hC : Ctr g M' d' bc bs (.inr (s, some i) :: As) h Ψ) (hst : st = As.reverse ++ .inr (s, some i) :: rest) (hn : As.length = n) (hr8 : (rest.map cy_ct).sum ≤ 8)
    (hd : decode (mC M) pc = .ok (.invokespecial index, 3)) (kk : ∀ (r : Option AV) (h' : Hp), Ψ (.inl r) h' → WP g M d uc us (pc + 3) L (r.toList ++ rest) h' Φ) (kx : ∀ (E : String) (h' : Hp), Ψ (.inr E) h' → WX g M d uc us pc L h' E Φ) : WP g M d (uc + bc) (us + bs) pc L st h Φ := by
  subst hst
  refine wp_callc (rest := rest) (fun hg p e R s0 m args below meth c H locs cells slots ls ad hE hd9 hdl hc hs hR hlv hwS => ⟨((.inr (s, some i) :: As).map (cy_cv ad)).toArray, ?_⟩) (fun cn hw v hv => hw v (List.mem_append_right _ (List.mem_cons_of_mem _ hv))) kk kx
  have hW := hE.2.2.2.2.2.2.1
  have hwa : ∀ v ∈ (.inr (s, some i) :: As : List AV), cy_wf (xCN h) v := fun v hv => by
    rcases List.mem_cons.mp hv with rfl | hv
    · exact hwS _ (List.mem_append_right _ List.mem_cons_self)
    · exact hwS v (List.mem_append_left _ (List.mem_reverse.mpr hv))
  have hcb := cy_callB (bc := bc) (bs := bs) (args := args) hg hW hok hl hdd hd9 hdl
  rw [hR9] at hcb
  exact vx_runI (nL := mN M) (Ts := []) (b := ad s i) (As := As.map (cy_cv ad)) ⟨hE.1, hE.2.1, hE.2.2.1, hE.2.2.2.2.1, fun w hw => by cases hw⟩ (hC hg ad hwa) ⟨hcb, hY, cy_wd hg hW hin (by rfl)⟩ ⟨cy_blind, fun U hU hWU => ⟨rfl, by rw [hU]; exact hR, State.WarmedH.trans hW hWU⟩⟩ rfl (by rw [List.length_map]; exact hn) hlv.1 cy_rev (lv_room (cy_cat hr8)) hd ⟨hc, hs⟩
end CALLS
