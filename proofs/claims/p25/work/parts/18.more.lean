section MORE
variable {g : GT} {M : MT} {d uc us pc : Nat} {L : List (Nat × AV)} {st : List AV} {h : Hp} {Φ : Rs → Hp → Prop}
/-- a nest mate's private constructor -/
theorem wx_ctorN {M' : MT} {index n d' bc bs s i : Nat} {host : String} {As rest : List AV} {Ψ : Rs → Hp → Prop} (hok : CallOk M M' index n) (hR9 : mR M' = none) (hY : (mY M').name = "<init>") (hl : Cond.methodLinkNest (mO M) index (mY M') host ∈ lw_tbl) (hin : Cond.instanceMethod (mY M') ∈ lw_tbl) (hdd : d' + 1 ≤ d) (hC : Ctr g M' d' bc bs (.inr (s, some i) :: As) h Ψ) (hst : st = As.reverse ++ .inr (s, some i) :: rest) (hn : As.length = n) (hr8 : (rest.map cy_ct).sum ≤ 8)
    (hd : decode (mC M) pc = .ok (.invokespecial index, 3)) (kk : ∀ (r : Option AV) (h' : Hp), Ψ (.inl r) h' → WP g M d uc us (pc + 3) L (r.toList ++ rest) h' Φ) (kx : ∀ (E : String) (h' : Hp), Ψ (.inr E) h' → WX g M d uc us pc L h' E Φ) : WP g M d (uc + bc) (us + bs) pc L st h Φ := by
  subst hst
  refine wp_callc (rest := rest) (fun hg p e R s0 m args below meth c H locs cells slots ls ad hE hd9 hdl hc hs hR hlv hwS => ⟨((.inr (s, some i) :: As).map (cy_cv ad)).toArray, ?_⟩) (fun cn hw v hv => hw v (List.mem_append_right _ (List.mem_cons_of_mem _ hv))) kk kx
  have hW := hE.2.2.2.2.2.2.1
  have hwa : ∀ v ∈ (.inr (s, some i) :: As : List AV), cy_wf (xCN h) v := fun v hv => by
    rcases List.mem_cons.mp hv with rfl | hv
    · exact hwS _ (List.mem_append_right _ List.mem_cons_self)
    · exact hwS v (List.mem_append_left _ (List.mem_reverse.mpr hv))
  obtain ⟨hH, hN, hcode, hini, hne, hn9⟩ := hok
  have hw : cy_word M' = .code (mY M') (mC M') (mN M') none := by unfold cy_word; rw [hH, hR9]
  have hlN : (Cond.methodLinkNest (mO M) index (mY M') host).before args s0 = true := va_Nw.use rfl (va_Nw.warmM hW (va_Nw.of rfl (hg.2.1 _ hl)))
  rw [hR9] at hcode
  refine vx_runIN (nL := mN M) (Ts := []) (host := host) (index := index) (y := mY M') (bytes := mC M') (maxL := mN M') (n := n) (b := ad s i) (As := As.map (cy_cv ad)) ⟨hE.1, hE.2.1, hE.2.2.1, hE.2.2.2.2.1, fun w hw => by cases hw⟩ (hC hg ad hwa)
    ⟨⟨⟨rfl, rfl, by show d' + 1 ≤ _; omega, by show 8 + (_ + 11) + 64 * d' ≤ _; omega, fun w hw9 a' U hWU => ?_, by rw [hw]; exact List.mem_cons_self⟩, cy_wd hg hW hcode (by rfl), cy_wd hg hW hini (by rfl), hne, fun sig hs => ?_, hlN⟩, hY, cy_wd hg hW hin (by rfl)⟩ ⟨cy_blind, fun U hU hWU => ⟨rfl, by rw [hU]; exact hR, State.WarmedH.trans hW hWU⟩⟩ rfl (by rw [List.length_map]; exact hn) hlv.1 cy_rev (lv_room (cy_cat hr8)) hd ⟨hc, hs⟩
  · rw [hw] at hw9
    have e : w = .code (mY M') (mC M') (mN M') none := by simpa using hw9
    rw [e]
    exact cy_wd hg (State.WarmedH.trans hW hWU) hcode (by rfl)
  · rw [hs] at hn9
    exact (Option.some.inj hn9).symm
/-- a static call of a method with handlers -/
theorem wx_staticH {M' : MT} {index n d' bc bs : Nat} {As rest : List AV} {Ψ : Rs → Hp → Prop} (hH : mH M' ≠ []) (hN : mN M' ≤ 40) (hcode : Cond.codeWith (mY M') (mC M') (mN M') (mR M') (mH M') ∈ lw_tbl) (hini : Cond.initialized (mY M').cls ∈ lw_tbl) (hne : (mY M').cls ≠ "java/lang/invoke/MethodHandle" ∧ (mY M').cls ≠ "java/lang/invoke/VarHandle") (hn9 : (parseMethodDescriptor (mY M').desc).map (fun d => d.parameters.length) = some n)
    (hl : Cond.methodLink (mO M) index (mY M') ∈ lw_tbl) (hst9 : Cond.static (mY M') ∈ lw_tbl) (hdd : d' + 1 ≤ d) (hC : Ctr g M' d' bc bs As h Ψ) (hst : st = As.reverse ++ rest) (hn : As.length = n) (hr8 : (rest.map cy_ct).sum ≤ 8)
    (hd : decode (mC M) pc = .ok (.invokestatic index, 3)) (kk : ∀ (r : Option AV) (h' : Hp), Ψ (.inl r) h' → WP g M d uc us (pc + 3) L (r.toList ++ rest) h' Φ) (kx : ∀ (E : String) (h' : Hp), Ψ (.inr E) h' → WX g M d uc us pc L h' E Φ) : WP g M d (uc + bc) (us + bs) pc L st h Φ := by
  subst hst
  refine wp_callc (rest := rest) (fun hg p e R s m args below meth c H locs cells slots ls ad hE hd9 hdl hc hs hR hlv hwS => ⟨(As.map (cy_cv ad)).toArray, ?_⟩) (fun cn hw v hv => hw v (List.mem_append_right _ hv)) kk kx
  have hW := hE.2.2.2.2.2.2.1
  have hw : cy_word M' = .codeWith (mY M') (mC M') (mN M') (mR M') (mH M') := by
    unfold cy_word
    cases hh : mH M' with
    | nil => exact absurd hh hH
    | cons a b => rfl
  refine vx_runSX (nL := mN M) (Ts := []) (hh := mH M') (index := index) (y := mY M') (bytes := mC M') (maxL := mN M') (ret := mR M') (n := n) ⟨hE.1, hE.2.1, hE.2.2.1, hE.2.2.2.2.1, fun w hw => by cases hw⟩ (hC hg ad (fun v hv => hwS v (List.mem_append_left _ (List.mem_reverse.mpr hv))))
    ⟨⟨rfl, rfl, by show d' + 1 ≤ _; omega, by show 8 + (_ + 11) + 64 * d' ≤ _; omega, fun w hw9 a' U hWU => ?_, by rw [hw]; exact List.mem_cons_self⟩, cy_wd hg hW hcode (by rfl), cy_wd hg hW hini (by rfl), hne, fun sig hs => ?_, cy_wd hg hW hl (by rfl), cy_wd hg hW hst9 (by rfl)⟩ ⟨cy_blind, fun U hU hWU => ⟨rfl, by rw [hU]; exact hR, State.WarmedH.trans hW hWU⟩⟩ rfl (by rw [List.length_map]; exact hn) hlv.1 cy_rev (lv_room (cy_cat hr8)) hd ⟨hc, hs⟩
  · rw [hw] at hw9
    have e : w = .codeWith (mY M') (mC M') (mN M') (mR M') (mH M') := by simpa using hw9
    rw [e]
    exact cy_wd hg (State.WarmedH.trans hW hWU) hcode (by rfl)
  · rw [hs] at hn9
    exact (Option.some.inj hn9).symm
/-- Object's constructor -/
theorem wx_objInit {s index : Nat} {i : Nat} (hl : Cond.methodLink (mO M) index objectInit ∈ lw_tbl) (hin : Cond.instanceMethod objectInit ∈ lw_tbl) (hcode : Cond.code objectInit ⟨#[0xb1]⟩ 1 none ∈ lw_tbl) (hd1 : 1 ≤ d) (hr8 : (st.map cy_ct).sum ≤ 8) (hd : decode (mC M) pc = .ok (.invokespecial index, 3))
    (k : WP g M d uc us (pc + 3) L st h Φ) : WP g M d uc us pc L (.inr (s, some i) :: st) h Φ := by
  intro hg p e R s0 m args below meth c H locs cells slots ls ad ad0 cn0 hE hd9 hdl hc hs hr hx hR hB hS hl9 hwL hwS
  have hW := hE.2.2.2.2.2.2.1
  have h8 := cy_cat (ad := ad) hr8
  exact W.objInit hE.1 hE.2.1 hE.2.2.2.2.1 (cy_wd hg hW hl (by rfl)) (cy_wd hg hW hin (by rfl)) (cy_wd hg hW hcode (by rfl)) rfl (by rw [hE.2.2.1]; exact hl9.1) rfl hd (by omega) (by show 2 * 0 + _ + 12 ≤ _; omega)
    (k hg p e R s0 m args below meth c H locs cells slots ls ad ad0 cn0 hE hd9 hdl hc hs hr hx hR hB hS hl9 hwL (cy_pop hwS))
theorem wx_min {x y : Int32} {index : Nat} (hl : Cond.methodLink (mO M) index Lib.Math.min.name ∈ lw_tbl) (hst9 : Cond.static Lib.Math.min.name ∈ lw_tbl) (hini : Cond.initialized "java/lang/Math" ∈ lw_tbl) (hcode : Cond.code Lib.Math.min.name Lib.Math.min.code 2 (some .int) ∈ lw_tbl) (hd1 : 1 ≤ d) (hr8 : (st.map cy_ct).sum ≤ 8) (hd : decode (mC M) pc = .ok (.invokestatic index, 3))
    (k : WP g M d uc us (pc + 3) L (.inl (.int (if y < x then y else x)) :: st) h Φ) : WP g M d uc us pc L (.inl (.int y) :: .inl (.int x) :: st) h Φ := by
  intro hg p e R s0 m args below meth c H locs cells slots ls ad ad0 cn0 hE hd9 hdl hc hs hr hx hR hB hS hl9 hwL hwS
  have hW := hE.2.2.2.2.2.2.1
  have h8 := cy_cat (ad := ad) hr8
  exact va_mmin hE.1 hE.2.1 (by rw [hE.2.2.1]; exact hl9.1.symm) hE.2.2.2.2.1 (cy_wd hg hW hl (by rfl)) (cy_wd hg hW hst9 (by rfl)) (cy_wd hg hW hini (by rfl)) (cy_wd hg hW hcode (by rfl)) (by omega) (by omega) (by omega) (by omega) hd
    (k hg p e R s0 m args below meth c H locs cells slots ls ad ad0 cn0 hE hd9 hdl hc hs hr hx hR hB hS hl9 hwL (cy_push cy_num (cy_pop (cy_pop hwS))))
theorem wx_max {x y : Int32} {index : Nat} (hl : Cond.methodLink (mO M) index Lib.Math.max.name ∈ lw_tbl) (hst9 : Cond.static Lib.Math.max.name ∈ lw_tbl) (hini : Cond.initialized "java/lang/Math" ∈ lw_tbl) (hcode : Cond.code Lib.Math.max.name Lib.Math.max.code 2 (some .int) ∈ lw_tbl) (hd1 : 1 ≤ d) (hr8 : (st.map cy_ct).sum ≤ 8) (hd : decode (mC M) pc = .ok (.invokestatic index, 3))
    (k : WP g M d uc us (pc + 3) L (.inl (.int (if x < y then y else x)) :: st) h Φ) : WP g M d uc us pc L (.inl (.int y) :: .inl (.int x) :: st) h Φ := by
  intro hg p e R s0 m args below meth c H locs cells slots ls ad ad0 cn0 hE hd9 hdl hc hs hr hx hR hB hS hl9 hwL hwS
  have hW := hE.2.2.2.2.2.2.1
  have h8 := cy_cat (ad := ad) hr8
  exact va_mmax hE.1 hE.2.1 (by rw [hE.2.2.1]; exact hl9.1.symm) hE.2.2.2.2.1 (cy_wd hg hW hl (by rfl)) (cy_wd hg hW hst9 (by rfl)) (cy_wd hg hW hini (by rfl)) (cy_wd hg hW hcode (by rfl)) (by omega) (by omega) (by omega) (by omega) hd
    (k hg p e R s0 m args below meth c H locs cells slots ls ad ad0 cn0 hE hd9 hdl hc hs hr hx hR hB hS hl9 hwL (cy_push cy_num (cy_pop (cy_pop hwS))))
/-- a cast to the object's own class -/
theorem wx_cast {s i index : Nat} {C : String} {T : u_T} {N : Nat} {ty : Nat → FieldType} (hC : ClsOk s C T N ty) (hw : Cond.classLink (mO M) index C ∈ lw_tbl) (hd : decode (mC M) pc = .ok (.checkcast index, 3))
    (k : WP g M d uc us (pc + 3) L (.inr (s, some i) :: st) h Φ) : WP g M d uc us pc L (.inr (s, some i) :: st) h Φ := by
  intro hg p e R s0 m args below meth c H locs cells slots ls ad ad0 cn0 hE hd9 hdl hc hs hr hx hR hB hS hl9 hwL hwS
  have hW := hE.2.2.2.2.2.2.1
  obtain ⟨c1, c2, c3, c4, c5, c6, c7⟩ := hC
  have hwi : i < xCN h s := (cy_top hwS).2.2 i rfl
  have hK := cy_K hg hW
  exact va_castS hE.1 hE.2.1 hE.2.2.2.2.1 (cy_wd hg hW hw (by rfl)) (hK.1 s _ c1).2 (va_recv hK (cy_P1 (cy_obj hR hwi c6)) (q0 := 0) c1 rfl) hd
    (k hg p e R s0 m args below meth c H locs cells slots ls ad ad0 cn0 hE hd9 hdl hc hs hr hx hR hB hS hl9 hwL hwS)
/-- a caught exception laid away -/
theorem wx_astoreX {q : Nat} {i : Fin 4} (hn : (i : Nat) < mN M) (hd : decode (mC M) pc = .ok (.astore_n i, 1)) (k : WP g M d uc us (pc + 1) L st h Φ) (hL : ∀ p ∈ L, ¬ p.1 = (i : Nat) ∧ ¬ (p.1 + 1 = (i : Nat) ∧ cy_ct p.2 = 2)) : WP g M d uc us pc L (.inl (.ref q) :: st) h Φ :=
  wp_step (fun _ a b => ⟨a, cy_pop b⟩) (fun _ _ _ _ _ _ _ _ _ _ _ _ _ _ _ ad _ hx hb hl kk => lv_astore_n hx hb hd rfl hl hn (st1_cv ad L (i : Nat) (.inl (.ref q))) (fun ls' hl' => kk ls' ⟨hl'.1, hl'.2.1, fun p hp => hl'.2.2 p (by
    obtain ⟨p0, h1, h2⟩ := List.mem_map.mp hp
    refine List.mem_map.mpr ⟨p0, List.mem_cons_of_mem _ (List.mem_filter.mpr ⟨h1, ?_⟩), h2⟩
    have h9 := hL p0 h1
    simp only [Bool.and_eq_true, Bool.not_eq_true', beq_eq_false_iff_ne, ne_eq, Bool.and_eq_false_iff]
    refine ⟨h9.1, ?_⟩
    rcases Nat.decEq (p0.1 + 1) (i : Nat) with e | e
    · exact Or.inl e
    · exact Or.inr (fun e2 => h9.2 ⟨e, e2⟩))⟩)) k
theorem wx_astoreY {q : Nat} {i : Nat} (hn : i < mN M) (hd : decode (mC M) pc = .ok (.astore i, 2)) (k : WP g M d uc us (pc + 2) L st h Φ) (hL : ∀ p ∈ L, ¬ p.1 = i ∧ ¬ (p.1 + 1 = i ∧ cy_ct p.2 = 2)) : WP g M d uc us pc L (.inl (.ref q) :: st) h Φ :=
  wp_step (fun _ a b => ⟨a, cy_pop b⟩) (fun _ _ _ _ _ _ _ _ _ _ _ _ _ _ _ ad _ hx hb hl kk => lv_astore hx hb hd hl hn (st1_cv ad L i (.inl (.ref q))) (fun ls' hl' => kk ls' ⟨hl'.1, hl'.2.1, fun p hp => hl'.2.2 p (by
    obtain ⟨p0, h1, h2⟩ := List.mem_map.mp hp
    refine List.mem_map.mpr ⟨p0, List.mem_cons_of_mem _ (List.mem_filter.mpr ⟨h1, ?_⟩), h2⟩
    have h9 := hL p0 h1
    simp only [Bool.and_eq_true, Bool.not_eq_true', beq_eq_false_iff_ne, ne_eq, Bool.and_eq_false_iff]
    refine ⟨h9.1, ?_⟩
    rcases Nat.decEq (p0.1 + 1) i with e | e
    · exact Or.inl e
    · exact Or.inr (fun e2 => h9.2 ⟨e, e2⟩))⟩)) k
/-- a contract says more than another -/
theorem Ctr.imp {d' bc bs : Nat} {av : List AV} {Φ Ψ : Rs → Hp → Prop} (hC : Ctr g M d' bc bs av h Φ) (hi : ∀ r h', Φ r h' → Ψ r h') : Ctr g M d' bc bs av h Ψ := by
  intro hg ad hwf p e ha hc hk s m args below hf happ hP hK
  obtain ⟨n, o, h1, h2, h3, h4⟩ := hC hg ad hwf p e ha hc hk s m args below hf happ hP hK
  refine ⟨n, o, h1, h2, h3, ?_⟩
  rcases h4 with ⟨⟨q1, r, h', ad', q2, q3⟩, q4⟩ | ⟨q, q0, E, ce, L', ⟨q1, h', ad', q2, q3⟩, q4⟩
  · exact Or.inl ⟨⟨q1, r, h', ad', hi _ _ q2, q3⟩, q4⟩
  · exact Or.inr ⟨q, q0, E, ce, L', ⟨q1, h', ad', hi _ _ q2, q3⟩, q4⟩
theorem WP.imp {Ψ : Rs → Hp → Prop} (hC : WP g M d uc us pc L st h Ψ) (hL : mL M = 0) (hi : ∀ r h', Ψ r h' → Φ r h') : WP g M d uc us pc L st h Φ := by
  intro hg p e R s m args below meth c H locs cells slots ls ad ad0 cn0 hE hd hdl hc hs hr hx hR hB hS hl hwL hwS
  have K := hC hg p e R s m args below meth c H locs cells slots ls ad ad0 cn0 hE hd hdl hc hs hr hx hR hB hS hl hwL hwS
  intro T hT X
  obtain ⟨t, a, b⟩ := K T hT X
  refine ⟨t, a, ?_⟩
  simp only [cy_Fi, hL, if_true] at b ⊢
  obtain ⟨o, b1, b2, b3⟩ := b
  refine ⟨o, b1, b2, ?_⟩
  rcases b3 with ⟨⟨q1, r, h', ad', q2, q3⟩, q4⟩ | ⟨q, q0, E, ce, L', ⟨q1, h', ad', q2, q3⟩, q4⟩
  · exact Or.inl ⟨⟨q1, r, h', ad', hi _ _ q2, q3⟩, q4⟩
  · exact Or.inr ⟨q, q0, E, ce, L', ⟨q1, h', ad', hi _ _ q2, q3⟩, q4⟩
/-- room to spare -/
theorem WP.room {uc' us' : Nat} (h1 : uc' ≤ uc) (h2 : us' ≤ us) (k : WP g M d uc' us' pc L st h Φ) : WP g M d uc us pc L st h Φ := by
  intro hg p e R s m args below meth c H locs cells slots ls ad ad0 cn0 hE hd hdl hc hs hr hx hR hB hS hl hwL hwS
  exact k hg p e R s m args below meth c H locs cells slots ls ad ad0 cn0 hE hd hdl (by omega) (by omega) hr hx hR hB hS hl hwL hwS
end MORE
