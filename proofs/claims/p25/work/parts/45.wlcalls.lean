/-! ===== own: calls over the law's world (parts 17 to 19, 23 once more) ===== -/
section LCALLS
variable {g : GT} {M : MT} {d uc us pc : Nat} {L : List (Nat × AV)} {st : List AV} {h : Wd} {Φ : Rs → Wd → Prop}

def WLX (g : GT) (M : MT) (d uc us : Nat) (pc : Nat) (L : List (Nat × AV)) (h : Wd) (E : String) (Φ : Rs → Wd → Prop) : Prop :=
  SF g → ∀ (p : Program) (e : Env) (R : Room) (s : State) (m : MethodId) (args : Array Value) (below : List Frame) (meth : Method) (c : Code) (H : Heap) (locs : List Loc) (cells slots : Nat) (ls : Array Slot) (ad ad0 : Nat → Nat → Nat) (cn0 : Nat → Nat),
    cy_En g M p s m args meth c → d ≤ R.frames → 64 * d ≤ R.locals → cells + uc ≤ R.cells → slots + us ≤ R.slots → (mL M ≠ 0 → R = room_1) → Ext ad0 cn0 ad cnL → RelL g ad h H → cy_B g ≤ s.heap.size → va_S (cy_A g) s.heap H locs →
    lv_has ls (mN M) (L.map (fun q => (q.1, cy_cv ad q.2))) → (∀ q ∈ L, cy_wf cnL q.2) → ∀ (q : Addr) (ce : Cell) (rest : List Value), H[q]? = some ce → ce.vm = .none → s.vm.findClass E = some ce.cls →
    vx_W p (cy_l g) e R s m args below meth c H locs cells slots (cl_Fi g M Φ ad0 cn0 below args s R) (F0 m pc ls rest) q
theorem wl_out {E : String} (hL : mL M = 0) (ht : ∀ x ∈ tableOf (mH M), covers x pc = false) (hΦ : Φ (.inr E) h) : WLX g M d uc us pc L h E Φ := by
  intro hg p e R s m args below meth c H locs cells slots ls ad ad0 cn0 hE hd hdl hc hs hr hx hR hB hS hl hwL q ce rest h1 h2 h3
  simp only [cl_Fi, hL, if_true]
  exact vx_out (by rw [(hE.2.2.2.2.2.2.2.1 hL).2]; exact ht) hE.2.2.2.2.2.1 h1 h2 h3 (fun t ht _ => ⟨by rw [ht]; exact hS.1, h, ad, hΦ, by rw [ht]; exact hR, hx⟩) hS.2.2 (by omega) (by omega)
theorem wl_catch {E name : String} (hL : mL M = 0) (pre : List ExceptionTableEntry) (x : ExceptionTableEntry) (suf : List ExceptionTableEntry) (ht : tableOf (mH M) = pre ++ x :: suf)
    (hpass : ∀ z ∈ pre, covers z pc = false ∨ (z.catchType ≠ 0 ∧ ∃ nm : String, Cond.classLink (mO M) z.catchType nm ∈ lw_tbl ∧ (E, nm) ∈ cy_ncs)) (hx9 : covers x pc = true) (h0 : x.catchType ≠ 0)
    (hw : Cond.classLink (mO M) x.catchType name ∈ lw_tbl) (hcast : Cond.castable E name ∈ lw_tbl) (kk : ∀ q : Nat, WL g M d uc us x.handlerPc L [.inl (.ref q)] h Φ) : WLX g M d uc us pc L h E Φ := by
  intro hg p e R s m args below meth c H locs cells slots ls ad ad0 cn0 hE hd hdl hc hs hr hx hR hB hS hl hwL q ce rest h1 h2 h3
  have hW := hE.2.2.2.2.2.2.1
  have hcs : (Cond.castable E name).before args s = true := va_Nw.use rfl (va_Nw.warmC hW (va_Nw.of rfl (hg.2.1 _ hcast)))
  refine vx_catch hE.2.2.2.2.1 pre x suf (by rw [(hE.2.2.2.2.2.2.2.1 hL).2]; exact ht) (fun z hz => ?_) hx9 h0 (cy_wd hg hW hw (by rfl)) hcs h1 h2 h3
    (kk q hg p e R s m args below meth c H locs cells slots ls ad ad0 cn0 hE hd hdl hc hs hr hx hR hB hS hl hwL (fun v hv => by rcases List.mem_cons.mp hv with rfl | hv; exact trivial; cases hv))
  rcases hpass z hz with h | ⟨g1, nm, g2, g3⟩
  · exact Or.inl h
  · exact Or.inr ⟨g1, nm, cy_wd hg hW g2 (by rfl), va_Nc.moved hW.alike (hg.2.2.2.2.2.2.2.2.1 _ g3)⟩
theorem cl_old {g : GT} {ad : Nat → Nat → Nat} {h : Wd} {H : Heap} {s : State} {locs : List Loc} (hR : RelL g ad h H) (hB : cy_B g ≤ s.heap.size) (hS : va_S (cy_A g) s.heap H locs) : ∀ q, q < cy_B g → s.heap[q]? = (cy_s g).heap[q]? := fun q hq => by
  rw [← hR.old q hq]
  exact (hS.2.1 q (Nat.lt_of_lt_of_le hq hB) (Nat.not_le.mpr hq)).symm
theorem wq_callc {bc bs : Nat} {rest : List AV} {Ψ : Rs → Wd → Prop}
    (hrun : SF g → ∀ (p : Program) (e : Env) (R : Room) (s : State) (m : MethodId) (args : Array Value) (below : List Frame) (meth : Method) (c : Code) (H : Heap) (locs : List Loc) (cells slots : Nat) (ls : Array Slot) (ad : Nat → Nat → Nat),
      cy_En g M p s m args meth c → d ≤ R.frames → 64 * d ≤ R.locals → cells + bc ≤ R.cells → slots + bs ≤ R.slots → RelL g ad h H → lv_has ls (mN M) (L.map (fun q => (q.1, cy_cv ad q.2))) → (∀ v ∈ st, cy_wf cnL v) →
      ∃ a : Array Value, vx_Run p (cy_l g) e R s m args below meth c H locs cells slots bc bs (F0 m pc ls (st.map (cy_cv ad))) (rest.map (cy_cv ad)) (cl_Qc g Ψ ad cnL a) (cl_XC g Ψ ad cnL) (cy_A g))
    (hrest : ∀ cn : Nat → Nat, (∀ v ∈ st, cy_wf cn v) → ∀ v ∈ rest, cy_wf cn v)
    (kk : ∀ (r : Option AV) (h' : Wd), Ψ (.inl r) h' → WL g M d uc us (pc + 3) L (r.toList ++ rest) h' Φ) (kx : ∀ (E : String) (h' : Wd), Ψ (.inr E) h' → WLX g M d uc us pc L h' E Φ) : WL g M d (uc + bc) (us + bs) pc L st h Φ := by
  intro hg p e R s m args below meth c H locs cells slots ls ad ad0 cn0 hE hd hdl hc hs hr hx hR hB hS hl hwL hwS
  obtain ⟨a, hrun⟩ := hrun hg p e R s m args below meth c H locs cells slots ls ad hE hd hdl (by omega) (by omega) hR hl hwS
  have hold := cl_old hR hB hS
  intro T hT X
  have hS9 : ∀ {t T' : State} {L' : List Loc} {ad' : Nat → Nat → Nat} {h' : Wd}, T'.heap = t.heap → H.size ≤ t.heap.size → RelL g ad' h' t.heap → (∀ q ∈ L', cy_A g q.base) → va_S (cy_A g) s.heap T'.heap (locs ++ L') := by
    intro t T' L' ad' h' e1 hz hR' hL'
    refine ⟨by rw [e1]; exact Nat.le_trans hS.1 hz, fun q h1 h2 => ?_, fun q hq => ?_⟩
    · have hq : q < cy_B g := Nat.not_le.mp h2
      rw [e1, hR'.old q hq, hold q hq]
    · rcases List.mem_append.mp hq with h | h
      · exact hS.2.2 q h
      · exact hL' q h
  rcases hrun T hT X with ⟨v, st₀, t, T', L', h0, X', hL', e1, e2, ⟨hz, r, h', ad', hΨ, hv, hwr, hR', hX'⟩, st9⟩ | ⟨q, st₀, t, T', L', E, ce, h0, X', hL', e1, e2, ⟨hz, h', ad', hΨ, hR', hX'⟩, hce, hcv, hcl, st9⟩
  · rw [h0] at hz
    cases hv
    have hwR := hrest _ hwS
    have hLm : (L.map (fun q => (q.1, cy_cv ad q.2))) = L.map (fun q => (q.1, cy_cv ad' q.2)) := List.map_congr_left fun q hq => by rw [cy_cv_ext hX' (hwL q hq)]
    have hrm : (rest.map (cy_cv ad)) = rest.map (cy_cv ad') := List.map_congr_left fun v hv => (cy_cv_ext hX' (hwR v hv)).symm
    obtain ⟨t2, a1, b1⟩ := kk r h' hΨ hg p e R s m args below meth c T'.heap (locs ++ L') (cells + bc) (slots + bs) ls ad' ad0 cn0 hE hd hdl (by omega) (by omega) hr (hx.trans hX') (by rw [e1]; exact hR') hB (hS9 e1 hz hR' hL') (by rw [← hLm]; exact hl) (fun q hq => cy_wf_ext hX' (hwL q hq))
      (fun v hv => by
        rcases List.mem_append.mp hv with hv | hv
        · exact hwr v (Option.mem_toList.mp hv)
        · exact cy_wf_ext hX' (hwR v hv)) T' rfl X'
    refine ⟨t2, st9 t2 ?_, b1⟩
    have e5 : (r.toList ++ rest).map (cy_cv ad') = (r.map (cy_cv ad')).toList ++ rest.map (cy_cv ad) := by
      rw [List.map_append, hrm]
      cases r <;> rfl
    rw [e5] at a1
    exact a1
  · rw [h0] at hz
    have hLm : (L.map (fun q => (q.1, cy_cv ad q.2))) = L.map (fun q => (q.1, cy_cv ad' q.2)) := List.map_congr_left fun q hq => by rw [cy_cv_ext hX' (hwL q hq)]
    obtain ⟨t2, a1, b1⟩ := kx E h' hΨ hg p e R s m args below meth c T'.heap (locs ++ L') (cells + bc) (slots + bs) ls ad' ad0 cn0 hE hd hdl (by omega) (by omega) hr (hx.trans hX') (by rw [e1]; exact hR') hB (hS9 e1 hz hR' hL') (by rw [← hLm]; exact hl) (fun q hq => cy_wf_ext hX' (hwL q hq)) q ce (rest.map (cy_cv ad)) (by rw [e1]; exact hce) hcv hcl T' rfl X'
    exact ⟨t2, st9.trans a1, b1⟩
theorem cl_blind {av : List Value} {ad : Nat → Nat → Nat} : FrameBlind (va_Pc av (fun U => RelL g ad h U.heap ∧ (cy_s g).WarmedH U.vm)) := by
  intro a U f mk ⟨h1, h2, h3⟩
  exact ⟨h1, h2, h3⟩
theorem wl_static {M' : MT} {index n d' bc bs : Nat} {As rest : List AV} {Ψ : Rs → Wd → Prop} (hok : CallOk M M' index n) (hl : Cond.methodLink (mO M) index (mY M') ∈ lw_tbl) (hst9 : Cond.static (mY M') ∈ lw_tbl) (hdd : d' + 1 ≤ d) (hC : CL g M' d' bc bs As h Ψ) (hst : st = As.reverse ++ rest) (hn : As.length = n) (hr8 : (rest.map cy_ct).sum ≤ 8)
    (hd : decode (mC M) pc = .ok (.invokestatic index, 3)) (kk : ∀ (r : Option AV) (h' : Wd), Ψ (.inl r) h' → WL g M d uc us (pc + 3) L (r.toList ++ rest) h' Φ) (kx : ∀ (E : String) (h' : Wd), Ψ (.inr E) h' → WLX g M d uc us pc L h' E Φ) : WL g M d (uc + bc) (us + bs) pc L st h Φ := by
  subst hst
  refine wq_callc (rest := rest) (fun hg p e R s m args below meth c H locs cells slots ls ad hE hd9 hdl hc hs hR hlv hwS => ⟨(As.map (cy_cv ad)).toArray, ?_⟩) (fun cn hw v hv => hw v (List.mem_append_right _ hv)) kk kx
  have hW := hE.2.2.2.2.2.2.1
  refine vx_runS (nL := mN M) (Ts := []) ⟨hE.1, hE.2.1, hE.2.2.1, hE.2.2.2.2.1, fun w hw => by cases hw⟩ (hC hg ad (fun v hv => hwS v (List.mem_append_left _ (List.mem_reverse.mpr hv)))) ⟨cy_callB hg hW hok hl hdd hd9 hdl, cy_wd hg hW hst9 (by rfl)⟩ ⟨cl_blind, fun U hU hWU => ⟨rfl, by rw [hU]; exact hR, State.WarmedH.trans hW hWU⟩⟩ rfl (by rw [List.length_map]; exact hn) hlv.1 cy_rev (lv_room (cy_cat hr8)) hd ⟨hc, hs⟩
theorem wl_staticH {M' : MT} {index n d' bc bs : Nat} {As rest : List AV} {Ψ : Rs → Wd → Prop} (hH : mH M' ≠ []) (hN : mN M' ≤ 40) (hcode : Cond.codeWith (mY M') (mC M') (mN M') (mR M') (mH M') ∈ lw_tbl) (hini : Cond.initialized (mY M').cls ∈ lw_tbl) (hne : (mY M').cls ≠ "java/lang/invoke/MethodHandle" ∧ (mY M').cls ≠ "java/lang/invoke/VarHandle") (hn9 : (parseMethodDescriptor (mY M').desc).map (fun d => d.parameters.length) = some n)
    (hl : Cond.methodLink (mO M) index (mY M') ∈ lw_tbl) (hst9 : Cond.static (mY M') ∈ lw_tbl) (hdd : d' + 1 ≤ d) (hC : CL g M' d' bc bs As h Ψ) (hst : st = As.reverse ++ rest) (hn : As.length = n) (hr8 : (rest.map cy_ct).sum ≤ 8)
    (hd : decode (mC M) pc = .ok (.invokestatic index, 3)) (kk : ∀ (r : Option AV) (h' : Wd), Ψ (.inl r) h' → WL g M d uc us (pc + 3) L (r.toList ++ rest) h' Φ) (kx : ∀ (E : String) (h' : Wd), Ψ (.inr E) h' → WLX g M d uc us pc L h' E Φ) : WL g M d (uc + bc) (us + bs) pc L st h Φ := by
  subst hst
  refine wq_callc (rest := rest) (fun hg p e R s m args below meth c H locs cells slots ls ad hE hd9 hdl hc hs hR hlv hwS => ⟨(As.map (cy_cv ad)).toArray, ?_⟩) (fun cn hw v hv => hw v (List.mem_append_right _ hv)) kk kx
  have hW := hE.2.2.2.2.2.2.1
  have hw : cy_word M' = .codeWith (mY M') (mC M') (mN M') (mR M') (mH M') := by
    unfold cy_word
    cases hh : mH M' with
    | nil => exact absurd hh hH
    | cons a b => rfl
  refine vx_runSX (nL := mN M) (Ts := []) (hh := mH M') (index := index) (y := mY M') (bytes := mC M') (maxL := mN M') (ret := mR M') (n := n) ⟨hE.1, hE.2.1, hE.2.2.1, hE.2.2.2.2.1, fun w hw => by cases hw⟩ (hC hg ad (fun v hv => hwS v (List.mem_append_left _ (List.mem_reverse.mpr hv))))
    ⟨⟨rfl, rfl, by show d' + 1 ≤ _; omega, by show 8 + (_ + 11) + 64 * d' ≤ _; omega, fun w hw9 a' U hWU => ?_, by rw [hw]; exact List.mem_cons_self⟩, cy_wd hg hW hcode (by rfl), cy_wd hg hW hini (by rfl), hne, fun sig hs => ?_, cy_wd hg hW hl (by rfl), cy_wd hg hW hst9 (by rfl)⟩ ⟨cl_blind, fun U hU hWU => ⟨rfl, by rw [hU]; exact hR, State.WarmedH.trans hW hWU⟩⟩ rfl (by rw [List.length_map]; exact hn) hlv.1 cy_rev (lv_room (cy_cat hr8)) hd ⟨hc, hs⟩
  · rw [hw] at hw9
    have e : w = .codeWith (mY M') (mC M') (mN M') (mR M') (mH M') := by simpa using hw9
    rw [e]
    exact cy_wd hg (State.WarmedH.trans hW hWU) hcode (by rfl)
  · rw [hs] at hn9
    exact (Option.some.inj hn9).symm
theorem wl_astoreX {q : Nat} {i : Fin 4} (hn : (i : Nat) < mN M) (hd : decode (mC M) pc = .ok (.astore_n i, 1)) (k : WL g M d uc us (pc + 1) L st h Φ) (hL : ∀ p ∈ L, ¬ p.1 = (i : Nat) ∧ ¬ (p.1 + 1 = (i : Nat) ∧ cy_ct p.2 = 2)) : WL g M d uc us pc L (.inl (.ref q) :: st) h Φ :=
  wq_step (fun _ a b => ⟨a, cy_pop b⟩) (fun _ _ _ _ _ _ _ _ _ _ _ _ _ _ _ ad _ hx hb hl kk => lv_astore_n hx hb hd rfl hl hn (st1_cv ad L (i : Nat) (.inl (.ref q))) (fun ls' hl' => kk ls' ⟨hl'.1, hl'.2.1, fun p hp => hl'.2.2 p (by
    obtain ⟨p0, h1, h2⟩ := List.mem_map.mp hp
    refine List.mem_map.mpr ⟨p0, List.mem_cons_of_mem _ (List.mem_filter.mpr ⟨h1, ?_⟩), h2⟩
    have h9 := hL p0 h1
    simp only [Bool.and_eq_true, Bool.not_eq_true', beq_eq_false_iff_ne, ne_eq, Bool.and_eq_false_iff]
    refine ⟨h9.1, ?_⟩
    rcases Nat.decEq (p0.1 + 1) (i : Nat) with e | e
    · exact Or.inl e
    · exact Or.inr (fun e2 => h9.2 ⟨e, e2⟩))⟩)) k
theorem wl_astoreY {q : Nat} {i : Nat} (hn : i < mN M) (hd : decode (mC M) pc = .ok (.astore i, 2)) (k : WL g M d uc us (pc + 2) L st h Φ) (hL : ∀ p ∈ L, ¬ p.1 = i ∧ ¬ (p.1 + 1 = i ∧ cy_ct p.2 = 2)) : WL g M d uc us pc L (.inl (.ref q) :: st) h Φ :=
  wq_step (fun _ a b => ⟨a, cy_pop b⟩) (fun _ _ _ _ _ _ _ _ _ _ _ _ _ _ _ ad _ hx hb hl kk => lv_astore hx hb hd hl hn (st1_cv ad L i (.inl (.ref q))) (fun ls' hl' => kk ls' ⟨hl'.1, hl'.2.1, fun p hp => hl'.2.2 p (by
    obtain ⟨p0, h1, h2⟩ := List.mem_map.mp hp
    refine List.mem_map.mpr ⟨p0, List.mem_cons_of_mem _ (List.mem_filter.mpr ⟨h1, ?_⟩), h2⟩
    have h9 := hL p0 h1
    simp only [Bool.and_eq_true, Bool.not_eq_true', beq_eq_false_iff_ne, ne_eq, Bool.and_eq_false_iff]
    refine ⟨h9.1, ?_⟩
    rcases Nat.decEq (p0.1 + 1) i with e | e
    · exact Or.inl e
    · exact Or.inr (fun e2 => h9.2 ⟨e, e2⟩))⟩)) k
theorem CL.imp {d' bc bs : Nat} {av : List AV} {Φ Ψ : Rs → Wd → Prop} (hC : CL g M d' bc bs av h Φ) (hi : ∀ r h', Φ r h' → Ψ r h') : CL g M d' bc bs av h Ψ := by
  intro hg ad hwf p e ha hc hk s m args below hf happ hP hK
  obtain ⟨n, o, h1, h2, h3, h4⟩ := hC hg ad hwf p e ha hc hk s m args below hf happ hP hK
  refine ⟨n, o, h1, h2, h3, ?_⟩
  rcases h4 with ⟨⟨q1, r, h', ad', q2, q3⟩, q4⟩ | ⟨q, q0, E, ce, L', ⟨q1, h', ad', q2, q3⟩, q4⟩
  · exact Or.inl ⟨⟨q1, r, h', ad', hi _ _ q2, q3⟩, q4⟩
  · exact Or.inr ⟨q, q0, E, ce, L', ⟨q1, h', ad', hi _ _ q2, q3⟩, q4⟩
theorem WL.imp {Ψ : Rs → Wd → Prop} (hC : WL g M d uc us pc L st h Ψ) (hL : mL M = 0) (hi : ∀ r h', Ψ r h' → Φ r h') : WL g M d uc us pc L st h Φ := by
  intro hg p e R s m args below meth c H locs cells slots ls ad ad0 cn0 hE hd hdl hc hs hr hx hR hB hS hl hwL hwS
  have K := hC hg p e R s m args below meth c H locs cells slots ls ad ad0 cn0 hE hd hdl hc hs hr hx hR hB hS hl hwL hwS
  intro T hT X
  obtain ⟨t, a, b⟩ := K T hT X
  refine ⟨t, a, ?_⟩
  simp only [cl_Fi, hL, if_true] at b ⊢
  obtain ⟨o, b1, b2, b3⟩ := b
  refine ⟨o, b1, b2, ?_⟩
  rcases b3 with ⟨⟨q1, r, h', ad', q2, q3⟩, q4⟩ | ⟨q, q0, E, ce, L', ⟨q1, h', ad', q2, q3⟩, q4⟩
  · exact Or.inl ⟨⟨q1, r, h', ad', hi _ _ q2, q3⟩, q4⟩
  · exact Or.inr ⟨q, q0, E, ce, L', ⟨q1, h', ad', hi _ _ q2, q3⟩, q4⟩
theorem WL.room {uc' us' : Nat} (h1 : uc' ≤ uc) (h2 : us' ≤ us) (k : WL g M d uc' us' pc L st h Φ) : WL g M d uc us pc L st h Φ := by
  intro hg p e R s m args below meth c H locs cells slots ls ad ad0 cn0 hE hd hdl hc hs hr hx hR hB hS hl hwL hwS
  exact k hg p e R s m args below meth c H locs cells slots ls ad ad0 cn0 hE hd hdl (by omega) (by omega) hr hx hR hB hS hl hwL hwS
def cl_det (r0 : Rs) (h0 : Wd) : Rs → Wd → Prop := fun r h => r = r0 ∧ h = h0
theorem wl_staticD {M' : MT} {index n d' bc bs : Nat} {As rest : List AV} {r0 : Option AV} {h0 : Wd} (hok : CallOk M M' index n) (hl : Cond.methodLink (mO M) index (mY M') ∈ lw_tbl) (hst9 : Cond.static (mY M') ∈ lw_tbl) (hdd : d' + 1 ≤ d) (hC : CL g M' d' bc bs As h (cl_det (.inl r0) h0)) (hst : st = As.reverse ++ rest) (hn : As.length = n) (hr8 : (rest.map cy_ct).sum ≤ 8)
    (hd : decode (mC M) pc = .ok (.invokestatic index, 3)) (kk : WL g M d uc us (pc + 3) L (r0.toList ++ rest) h0 Φ) : WL g M d (uc + bc) (us + bs) pc L st h Φ :=
  wl_static hok hl hst9 hdd hC hst hn hr8 hd (fun r h' e => by obtain ⟨e1, rfl⟩ := e; cases e1; exact kk) (fun E h' e => nomatch e.1)
theorem cl_out {E : String} (hL : mL M = 0) (hH : mH M = []) (hΦ : Φ (.inr E) h) : WLX g M d uc us pc L h E Φ := wl_out hL (by rw [hH]; intro x hx; cases hx) hΦ
theorem detL_to {r0 r1 : Rs} {h0 h1 : Wd} {av : List AV} {bc bs : Nat} (hC : CL g M d bc bs av h (cl_det r0 h0)) (e1 : r0 = r1) (e2 : h0 = h1) : CL g M d bc bs av h (cl_det r1 h1) := by subst e1; subst e2; exact hC
def cl_detP (r0 : Rs) (h0 : Wd) (P : Prop) : Rs → Wd → Prop := fun r h => P ∧ r = r0 ∧ h = h0
theorem wl_staticDP {M' : MT} {index n d' bc bs : Nat} {As rest : List AV} {r0 : Option AV} {h0 : Wd} {P : Prop} (hok : CallOk M M' index n) (hl : Cond.methodLink (mO M) index (mY M') ∈ lw_tbl) (hst9 : Cond.static (mY M') ∈ lw_tbl) (hdd : d' + 1 ≤ d) (hC : CL g M' d' bc bs As h (cl_detP (.inl r0) h0 P)) (hst : st = As.reverse ++ rest) (hn : As.length = n) (hr8 : (rest.map cy_ct).sum ≤ 8)
    (hd : decode (mC M) pc = .ok (.invokestatic index, 3)) (kk : P → WL g M d uc us (pc + 3) L (r0.toList ++ rest) h0 Φ) : WL g M d (uc + bc) (us + bs) pc L st h Φ :=
  wl_static hok hl hst9 hdd hC hst hn hr8 hd (fun r h' e => by obtain ⟨hP, e1, rfl⟩ := e; cases e1; exact kk hP) (fun E h' e => nomatch e.2.1)
theorem detLP_of {r0 : Rs} {h0 : Wd} {av : List AV} {bc bs : Nat} (hC : CL g M d bc bs av h (cl_det r0 h0)) {P : Prop} (p : P) : CL g M d bc bs av h (cl_detP r0 h0 P) := hC.imp fun _ _ e => ⟨p, e⟩
theorem detL_of {r0 : Rs} {h0 : Wd} {av : List AV} {bc bs : Nat} {P : Prop} (hC : CL g M d bc bs av h (cl_detP r0 h0 P)) : CL g M d bc bs av h (cl_det r0 h0) := hC.imp fun _ _ e => e.2
theorem wq_by {uc' us' pc' : Nat} {L' : List (Nat × AV)} {st' : List AV} {h' : Wd} (f : WL g M d uc' us' pc' L' st' h' Φ → WL g M d uc us pc L st h Φ) (J : WL g M d uc' us' pc' L' st' h' Φ) : WL g M d uc us pc L st h Φ := f J
theorem wq_eq {L' : List (Nat × AV)} {st' : List AV} {h' : Wd} (J : WL g M d uc us pc L' st' h' Φ) (e1 : L' = L) (e2 : st' = st) (e3 : h' = h) : WL g M d uc us pc L st h Φ := by subst e1; subst e2; subst e3; exact J
theorem cl_bodyO {bc bs : Nat} {av : List AV} (hO : (mY M).cls = mO M) (hL : mL M = 0) (hp : plainName (mY M).cls = true) (hn : (av.map fun v => if cy_ct v = 2 then 2 else 1).sum ≤ mN M)
    (k : WL g M d bc bs 0 (cy_ar 0 av) [] h Φ) : CL g M d bc bs av h Φ := cl_body hO hL hp (by rw [cy_sl]; exact hn) k
end LCALLS
