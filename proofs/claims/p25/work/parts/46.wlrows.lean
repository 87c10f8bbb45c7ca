/-! ===== own: the law's row, the script, calls on the two objects ===== -/
theorem RelL.dput {g : GT} {ad : Nat → Nat → Nat} {w : Wd} {H H1 : Heap} {D' : Nat → Int32} (hR : RelL g ad w H) (hat : va_at (cy_D g) vwCl (ad 3 0, .inl (cy_cA g 0, 43, .inl D')) H1) (oq : ∀ q, q ≠ ad 3 0 → H1[q]? = H[q]?) (hz : H1.size = H.size) : RelL g ad (w.1, w.2.1, D', w.2.2.2) H1 := by
  obtain ⟨aO, aT, hO, hT, ⟨p1, p2, p3, p4, p5, p6⟩, ⟨q1, q2, q3, q4, q5, q6⟩, h3, h4, h5, h6⟩ := hR
  have hB : ∀ q, q < cy_B g → H1[q]? = H[q]? := fun q h => oq q (fun e => by omega)
  refine ⟨aO, aT, hO, hT, ⟨p1, p2.stay h6.2 p5 (Nat.le_of_eq hz.symm) hB (fun q z => oq q (fun e => p6 q z (.inr e))), p3, p4, p5, p6⟩, ⟨q1, q2.stay h6.2 q5 (Nat.le_of_eq hz.symm) hB (fun q z => oq q (fun e => q6 q z (.inr e))), q3, q4, q5, q6⟩, hat, h4, h5.kept (hB _ h6.1), h6⟩
theorem RelL.obj {g : GT} {ad : Nat → Nat → Nat} {w : Wd} {H : Heap} {q : Nat} (hq : q = 1 ∨ q = 2) (hR : RelL g ad w H) : ∃ fs, va_at (cy_D g) vwCl (ad q 0, .inr (9, fs)) H := by
  obtain ⟨aO, aT, hO, hT, ⟨p1, p2, p3, p4, p5, p6⟩, ⟨q1, q2, q3, q4, q5, q6⟩, h3, h4, h5, h6⟩ := hR
  rcases hq with rfl | rfl
  · exact ⟨_, by rw [p3]; exact cy_obj (g := pn g (fun _ => False) H) p2 p4 rfl⟩
  · exact ⟨_, by rw [q3]; exact cy_obj (g := pn g (fun _ => False) H) q2 q4 rfl⟩
section LROWS
variable {g : GT} {M : MT} {d uc us pc : Nat} {L : List (Nat × AV)} {st : List AV} {h : Wd} {Φ : Rs → Wd → Prop}
/-- a number of the law's row -/
theorem wl_dld {x : Int32} (hin : vp_in x 43) (hd : decode (mC M) pc = .ok (.iaload, 1))
    (kk : WL g M d uc us (pc + 1) L (.inl (.int (wD h x.toNatClampNeg)) :: st) h Φ) : WL g M d uc us pc L (.inl (.int x) :: .inr (3, some 0) :: st) h Φ := by
  intro hg p e R s0 m args below meth c H locs cells slots ls ad ad0 cn0 hE hd9 hdl hc hs9 hr hx hR hB hS hl hwL hwS
  have hk := kk hg p e R s0 m args below meth c H locs cells slots ls ad ad0 cn0 hE hd9 hdl hc hs9 hr hx hR hB hS hl hwL (cy_push cy_num (cy_pop (cy_pop hwS)))
  obtain ⟨aO, aT, hO, hT, h1, h2, h3, h4, h5, h6⟩ := hR
  exact va_iald hE.1 hE.2.1 (cy_K hg hE.2.2.2.2.2.2.1) (cy_P1 h3) 0 0 rfl rfl hin hd hk
theorem wl_dst {x v : Int32} (hin : vp_in x 43) (hd : decode (mC M) pc = .ok (.iastore, 1))
    (kk : WL g M d uc us (pc + 1) L st (h.1, h.2.1, (fun z => if z = x.toNatClampNeg then v else wD h z), h.2.2.2) Φ) : WL g M d uc us pc L (.inl (.int v) :: .inl (.int x) :: .inr (3, some 0) :: st) h Φ := by
  intro hg p e R s0 m args below meth c H locs cells slots ls ad ad0 cn0 hE hd9 hdl hc hs9 hr hx hR hB hS hl hwL hwS
  have hK := cy_K hg hE.2.2.2.2.2.2.1
  have hR0 := hR
  obtain ⟨aO, aT, hO, hT, h1, h2, h3, h4, h5, h6⟩ := hR
  obtain ⟨n, hn⟩ : ∃ n : Nat, n = 43 := ⟨_, rfl⟩
  rw [← hn] at h3 hin
  refine W.iast hE.1 hE.2.1 h3 ((cy_ty hK).1 n (fun j => .int (wD h j))) (fun q => by cases q) (by show ¬ (x < 0 ∨ (arrV _ _ _).slots.size ≤ _); rw [arrV_size]; exact hin) rfl rfl hd fun H1 e1 z oq => ?_
  have hat : va_at (cy_D g) vwCl (ad 3 0, .inl (cy_cA g 0, n, .inl (fun z => if z = x.toNatClampNeg then v else wD h z))) H1 := by
    show H1[ad 3 0]? = some (vp_cell _ _)
    rw [e1]
    rw [vp_cell_i, vp_cell_i, arrV_store]
    congr 2
    funext q
    by_cases hq : q = x.toNatClampNeg
    · subst hq
      simp [updV]
    · simp [updV, hq]
  rw [hn] at hat
  exact kk hg p e R s0 m args below meth c H1 _ cells slots ls ad ad0 cn0 hE hd9 hdl hc hs9 hr hx (hR0.dput hat oq z) hB (hS.put z oq h4) hl hwL (cy_pop (cy_pop (cy_pop hwS)))
/-- a number of the script -/
theorem wl_sld {x : Int32} (hin : vp_in x (wN h)) (hd : decode (mC M) pc = .ok (.iaload, 1))
    (kk : WL g M d uc us (pc + 1) L (.inl (.int (wS h x.toNatClampNeg)) :: st) h Φ) : WL g M d uc us pc L (.inl (.int x) :: .inr (4, some 0) :: st) h Φ := by
  intro hg p e R s0 m args below meth c H locs cells slots ls ad ad0 cn0 hE hd9 hdl hc hs9 hr hx hR hB hS hl hwL hwS
  have hk := kk hg p e R s0 m args below meth c H locs cells slots ls ad ad0 cn0 hE hd9 hdl hc hs9 hr hx hR hB hS hl hwL (cy_push cy_num (cy_pop (cy_pop hwS)))
  obtain ⟨aO, aT, hO, hT, h1, h2, h3, h4, h5, h6⟩ := hR
  obtain ⟨scr, h1, h2, h3, h4, h5⟩ := va_X.moved hE.2.2.2.2.2.2.1.alike h5
  have hlt : x.toNatClampNeg < wN h := Nat.not_le.mp fun q => hin (Or.inr q)
  exact W.iald (v := .int (wS h x.toNatClampNeg)) hE.1 hE.2.1 h1 h2 h3 (by rw [h4]; exact hin) (h5 _ hlt) rfl rfl hd hk
theorem wl_slen (hd : decode (mC M) pc = .ok (.arraylength, 1))
    (kk : WL g M d uc us (pc + 1) L (.inl (.int (Int32.ofNat (wN h))) :: st) h Φ) : WL g M d uc us pc L (.inr (4, some 0) :: st) h Φ := by
  intro hg p e R s0 m args below meth c H locs cells slots ls ad ad0 cn0 hE hd9 hdl hc hs9 hr hx hR hB hS hl hwL hwS
  have hk := kk hg p e R s0 m args below meth c H locs cells slots ls ad ad0 cn0 hE hd9 hdl hc hs9 hr hx hR hB hS hl hwL (cy_push cy_num (cy_pop hwS))
  obtain ⟨aO, aT, hO, hT, h1, h2, h3, h4, h5, h6⟩ := hR
  obtain ⟨scr, h1, h2, h3, h4, h5⟩ := va_X.moved hE.2.2.2.2.2.2.1.alike h5
  exact W.alen (n := Int32.ofNat (wN h)) hE.1 hE.2.1 h1 h2 (by rw [h4]) rfl rfl hd hk
/-- a call on one of the two objects -/
theorem wl_virtual {M' : MT} {index n d' bc bs q : Nat} {As rest : List AV} {Ψ : Rs → Wd → Prop} (hq : q = 1 ∨ q = 2) (hCC : (mY M').cls = RX8) (hok : CallOk M M' index n) (hl : Cond.methodLink (mO M) index (mY M') ∈ lw_tbl) (hin : Cond.instanceMethod (mY M') ∈ lw_tbl) (hsel : Cond.selects RX8 (mY M') (mY M') ∈ lw_tbl) (hdd : d' + 1 ≤ d) (hC : CL g M' d' bc bs (.inr (q, some 0) :: As) h Ψ) (hst : st = As.reverse ++ .inr (q, some 0) :: rest) (hn : As.length = n) (hr8 : (rest.map cy_ct).sum ≤ 8)
    (hd : decode (mC M) pc = .ok (.invokevirtual index, 3)) (kk : ∀ (r : Option AV) (h' : Wd), Ψ (.inl r) h' → WL g M d uc us (pc + 3) L (r.toList ++ rest) h' Φ) (kx : ∀ (E : String) (h' : Wd), Ψ (.inr E) h' → WLX g M d uc us pc L h' E Φ) : WL g M d (uc + bc) (us + bs) pc L st h Φ := by
  subst hst
  refine wq_callc (rest := rest) (fun hg p e R s0 m args below meth c H locs cells slots ls ad hE hd9 hdl hc hs hR hlv hwS => ⟨((.inr (q, some 0) :: As).map (cy_cv ad)).toArray, ?_⟩) (fun cn hw v hv => hw v (List.mem_append_right _ (List.mem_cons_of_mem _ hv))) kk kx
  have hW := hE.2.2.2.2.2.2.1
  obtain ⟨fs, hfs⟩ := hR.obj hq
  obtain ⟨c1, c2, c3, c4, c5, c6, c7⟩ := cls_9
  have hwa : ∀ v ∈ (.inr (q, some 0) :: As : List AV), cy_wf cnL v := fun v hv => by
    rcases List.mem_cons.mp hv with rfl | hv
    · exact hwS _ (List.mem_append_right _ List.mem_cons_self)
    · exact hwS v (List.mem_append_left _ (List.mem_reverse.mpr hv))
  refine vx_runV (nL := mN M) (Ts := []) (C := RX8) (b := ad q 0) (As := As.map (cy_cv ad)) ⟨hE.1, hE.2.1, hE.2.2.1, hE.2.2.2.2.1, fun w hw => by cases hw⟩ (hC hg ad hwa) ⟨cy_callB hg hW hok hl hdd hd9 hdl, cy_wd hg hW hin (by rfl), cy_wd hg hW hsel (by rfl)⟩ ⟨cl_blind, va_recv (cy_K hg hW) (cy_P1 hfs) (q0 := 0) c1 rfl, fun U hU hWU => ⟨rfl, by rw [hU]; exact hR, State.WarmedH.trans hW hWU⟩⟩ rfl (by rw [List.length_map]; exact hn) hlv.1 cy_rev (lv_room (cy_cat hr8)) hd ⟨hc, hs⟩
end LROWS
/-- what is no number has no place here -/
def nums (ns : List AV) : Prop := ∀ v ∈ ns, ∃ x, v = .inl x
def numR (r : Rs) : Prop := ∀ v, r = .inl (some v) → ∃ x, v = .inl x
theorem nums_cv {ns : List AV} (h : nums ns) (a b : Nat → Nat → Nat) : ns.map (cy_cv a) = ns.map (cy_cv b) := List.map_congr_left fun v hv => by
  obtain ⟨x, rfl⟩ := h v hv
  rfl
/-- a call on the first object, by the class's contract -/
theorem lift_o {g : GT} {M : MT} {w : Wd} {d bc bs : Nat} {ns : List AV} {r : Rs} {k : Hp} (hns : nums ns) (hr : numR r) (h9 : 0 < xCN k 9) (h16 : xCN k 16 = 0)
    (hC : ∀ (g' : GT) (h' : Hp), ZX w.1 h' → ∃ h1, Ctr g' M d bc bs (.inr (9, some 0) :: ns) h' (cy_det r h1) ∧ GZ k h1 ∧ (CLO h' → CLO h1 → CLO k)) : CL g M d bc bs (.inr (1, some 0) :: ns) w (cl_det r (k, w.2)) := by
  intro hg ad hwf p e ha hc hk s m args below hf happ hP hK
  obtain ⟨e0, ⟨aO, aT, hO, hT, o1, o2, h3, h4, h5, h6⟩, hW⟩ := hP
  have hlt : ∀ q, (ftp aT (xCN hT) q ∨ q = ad 3 0) → q < s.heap.size := fun q z => by
    rcases z with z | z
    · exact o2.lt z
    · rw [z]; exact va_at.lt h3
  have hA := o1.ahead hlt
  obtain ⟨h1, hCt, hgz, hcl⟩ := hC (pn g (fun q => ftp aT (xCN hT) q ∨ q = ad 3 0) s.heap) hO o1.1
  have e1 : args = ((.inr (9, some 0) :: ns : List AV).map (cy_cv aO)).toArray := by
    rw [e0]
    simp only [List.map_cons, nums_cv hns ad aO]
    show (Value.ref (ad 1 0) :: _).toArray = (Value.ref (aO 9 0) :: _).toArray
    rw [o1.2.2.1]
  obtain ⟨n, o, a1, a2, a3, a4⟩ := hCt (pn_sf hg _ _) aO (fun v hv => by
    rcases List.mem_cons.mp hv with rfl | hv
    · exact ⟨by decide, by decide, fun i e => by cases e; exact o1.2.2.2.1⟩
    · obtain ⟨x, rfl⟩ := hns v hv
      trivial) p e ha hc hk s m args below hf happ ⟨e1, hA, hW⟩ hK
  refine ⟨n, o, a1, a2, a3, ?_⟩
  rcases a4 with ⟨⟨q1, r', h'', ad', ⟨er, eh⟩, ho, hwr, hR', hX'⟩, q4⟩ | ⟨q, q0, E, ce, L', ⟨q1, h'', ad', ⟨er, eh⟩, hR', hX'⟩, q4⟩
  · subst eh
    have hRL : RelL g ad (k, w.2) _ := RelL.behind o1 o2 h3 h4 h5 h6 q1 (hR'.drop hgz (hcl hA.clo hR'.clo)) ((hX' 9 0 o1.2.2.2.1).2 (by decide) (by decide)) h9 h16 (mx_zx _ _)
    refine Or.inl ⟨⟨q1, r', (k, w.2), ad, ⟨er, rfl⟩, ?_, fun v hv => ?_, hRL, Ext.refl _ _⟩, q4⟩
    · rw [ho]
      cases r' with
      | none => rfl
      | some v =>
        obtain ⟨x, rfl⟩ := hr v er.symm
        rfl
    · subst hv
      obtain ⟨x, rfl⟩ := hr v er.symm
      trivial
  · subst eh
    have hRL : RelL g ad (k, w.2) _ := RelL.behind o1 o2 h3 h4 h5 h6 q1 (hR'.drop hgz (hcl hA.clo hR'.clo)) ((hX' 9 0 o1.2.2.2.1).2 (by decide) (by decide)) h9 h16 (mx_zx _ _)
    exact Or.inr ⟨q, q0, E, ce, L', ⟨q1, (k, w.2), ad, ⟨er, rfl⟩, hRL, Ext.refl _ _⟩, q4⟩
theorem Ext_sw {ad ad' : Nat → Nat → Nat} (h : Ext (swA ad) cnL ad' cnL) : Ext ad cnL (swA ad') cnL := by
  intro s i hi
  refine ⟨hi, fun n1 n2 => ?_⟩
  have k1 : ∀ s', i < cnL s' → s' ≠ 13 → s' ≠ 14 → ad' s' i = swA ad s' i := fun s' hs a b => (h s' i hs).2 a b
  unfold swA
  by_cases h1 : s = 1
  · subst h1
    rw [if_pos rfl, k1 2 hi (by decide) (by decide)]
    unfold swA
    rw [if_neg (by decide), if_pos rfl]
  · rw [if_neg h1]
    by_cases h2 : s = 2
    · subst h2
      rw [if_pos rfl, k1 1 hi (by decide) (by decide)]
      unfold swA
      rw [if_pos rfl]
    · rw [if_neg h2, k1 s hi n1 n2]
      unfold swA
      rw [if_neg h1, if_neg h2]
/-- and on the second -/
theorem lift_t {g : GT} {M : MT} {w : Wd} {d bc bs : Nat} {ns : List AV} {r : Rs} {k : Hp} (hns : nums ns) (hr : numR r) (h9 : 0 < xCN k 9) (h16 : xCN k 16 = 0)
    (hC : ∀ (g' : GT) (h' : Hp), ZX w.2.1 h' → ∃ h1, Ctr g' M d bc bs (.inr (9, some 0) :: ns) h' (cy_det r h1) ∧ GZ k h1 ∧ (CLO h' → CLO h1 → CLO k)) : CL g M d bc bs (.inr (2, some 0) :: ns) w (cl_det r (w.1, k, w.2.2)) := by
  have L0 := lift_o (g := g) (w := sw w) hns hr h9 h16 hC
  intro hg ad hwf p e ha hc hk s m args below hf happ hP hK
  obtain ⟨e0, hRL, hW⟩ := hP
  have e1 : args = ((.inr (1, some 0) :: ns : List AV).map (cy_cv (swA ad))).toArray := by
    rw [e0]
    simp only [List.map_cons, nums_cv hns ad (swA ad)]
    rfl
  obtain ⟨n, o, a1, a2, a3, a4⟩ := L0 hg (swA ad) (fun v hv => by
    rcases List.mem_cons.mp hv with rfl | hv
    · exact ⟨by decide, by decide, fun i e => by cases e; exact Nat.one_pos⟩
    · obtain ⟨x, rfl⟩ := hns v hv
      trivial) p e ha hc hk s m args below hf happ ⟨e1, hRL.swap, hW⟩ hK
  refine ⟨n, o, a1, a2, a3, ?_⟩
  rcases a4 with ⟨⟨q1, r', h'', ad', ⟨er, eh⟩, ho, hwr, hR', hX'⟩, q4⟩ | ⟨q, q0, E, ce, L', ⟨q1, h'', ad', ⟨er, eh⟩, hR', hX'⟩, q4⟩
  · subst eh
    refine Or.inl ⟨⟨q1, r', (w.1, k, w.2.2), swA ad', ⟨er, rfl⟩, ?_, fun v hv => ?_, hR'.swap, Ext_sw hX'⟩, q4⟩
    · rw [ho]
      cases r' with
      | none => rfl
      | some v =>
        obtain ⟨x, rfl⟩ := hr v er.symm
        rfl
    · subst hv
      obtain ⟨x, rfl⟩ := hr v er.symm
      trivial
  · subst eh
    exact Or.inr ⟨q, q0, E, ce, L', ⟨q1, (w.1, k, w.2.2), swA ad', ⟨er, rfl⟩, hR'.swap, Ext_sw hX'⟩, q4⟩
/-- the object at q, and the world with another there -/
def wq (q : Nat) (w : Wd) : Hp := if q = 1 then w.1 else w.2.1
def ws (q : Nat) (w : Wd) (k : Hp) : Wd := if q = 1 then (k, w.2) else (w.1, k, w.2.2)
theorem lift {g : GT} {M : MT} {w : Wd} {d bc bs q : Nat} {ns : List AV} {r : Rs} {k : Hp} (hq : q = 1 ∨ q = 2) (hns : nums ns) (hr : numR r) (h9 : 0 < xCN k 9) (h16 : xCN k 16 = 0)
    (hC : ∀ (g' : GT) (h' : Hp), ZX (wq q w) h' → ∃ h1, Ctr g' M d bc bs (.inr (9, some 0) :: ns) h' (cy_det r h1) ∧ GZ k h1 ∧ (CLO h' → CLO h1 → CLO k)) : CL g M d bc bs (.inr (q, some 0) :: ns) w (cl_det r (ws q w k)) := by
  rcases hq with rfl | rfl
  · exact lift_o hns hr h9 h16 hC
  · exact lift_t hns hr h9 h16 hC
