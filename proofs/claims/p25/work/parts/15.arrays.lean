section ARRAYS
variable {g : GT} {M : MT} {d uc us pc : Nat} {L : List (Nat × AV)} {st : List AV} {h : Hp} {Φ : Rs → Hp → Prop}
theorem cy_ty {g : GT} {s : State} (hK : va_K (cy_D g) vwCl (cy_tys g) s) : ArrOfT s (cy_cA g 0) .int ∧ ArrOfT s (cy_cA g 1) .boolean ∧ ArrOfT s (cy_cA g 0) .int ∧ ArrOfT s (cy_cA g 0) .int ∧ ArrOfT s (cy_cA g 4) (.object "java/lang/Object") :=
  ⟨(hK.2 0 _ rfl).1, (hK.2 1 _ rfl).1, (hK.2 2 _ rfl).1, (hK.2 3 _ rfl).1, (hK.2 4 _ rfl).1⟩
theorem va_X.moved' {b L : Nat} {xs : Nat → Int32} {u U : State} {H : Heap} (hvm : u.vm.Alike U.vm) (h : va_X b L xs u H) : va_X b L xs U H := va_X.moved hvm h
/-- a number of a row -/
theorem wx_iald {s i : Nat} {x : Int32} (hs : cy_kd s = 2 ∨ cy_kd s = 8) (hin : vp_in x (cy_ln h s)) (hd : decode (mC M) pc = .ok (.iaload, 1))
    (kk : WP g M d uc us (pc + 1) L (.inl (.int (xAI h s i x.toNatClampNeg)) :: st) h Φ) : WP g M d uc us pc L (.inl (.int x) :: .inr (s, some i) :: st) h Φ := by
  intro hg p e R s0 m args below meth c H locs cells slots ls ad ad0 cn0 hE hd9 hdl hc hs9 hr hx hR hB hS hl hwL hwS
  have hi : i < xCN h s := (cy_top (cy_pop hwS)).2.2 i rfl
  have hk := kk hg p e R s0 m args below meth c H locs cells slots ls ad ad0 cn0 hE hd9 hdl hc hs9 hr hx hR hB hS hl hwL (cy_push cy_num (cy_pop (cy_pop hwS)))
  rcases hs with h2 | h8
  · exact va_iald hE.1 hE.2.1 (cy_K hg hE.2.2.2.2.2.2.1) (cy_P1 (cy_arr hR hi h2)) 0 0 rfl rfl hin hd hk
  · obtain ⟨scr, h1, h2, h3, h4, h5⟩ := va_X.moved hE.2.2.2.2.2.2.1.alike (cy_sta hR hi h8)
    have hlt : x.toNatClampNeg < cy_ln h s := Nat.not_le.mp fun q => hin (Or.inr q)
    exact W.iald (v := .int (xAI h s i x.toNatClampNeg)) hE.1 hE.2.1 h1 h2 h3 (by rw [h4]; exact hin) (h5 _ hlt) rfl rfl hd hk
theorem wx_zald {s i : Nat} {x : Int32} (hs : cy_kd s = 3) (hin : vp_in x (cy_ln h s)) (hd : decode (mC M) pc = .ok (.baload, 1))
    (kk : WP g M d uc us (pc + 1) L (.inl (.int (xAI h s i x.toNatClampNeg)) :: st) h Φ) : WP g M d uc us pc L (.inl (.int x) :: .inr (s, some i) :: st) h Φ := by
  intro hg p e R s0 m args below meth c H locs cells slots ls ad ad0 cn0 hE hd9 hdl hc hs9 hr hx hR hB hS hl hwL hwS
  have hi : i < xCN h s := (cy_top (cy_pop hwS)).2.2 i rfl
  exact va_zald hE.1 hE.2.1 (cy_K hg hE.2.2.2.2.2.2.1) (cy_P1 (cy_boo hR hi hs)) 0 1 rfl rfl hin hd (kk hg p e R s0 m args below meth c H locs cells slots ls ad ad0 cn0 hE hd9 hdl hc hs9 hr hx hR hB hS hl hwL (cy_push cy_num (cy_pop (cy_pop hwS))))
theorem cy_en_arr {ad : Nat → Nat → Nat} {s i j : Nat} {v : Int32} (hs : cy_kd s ≠ 8) : ∀ t k, ¬ (t = s ∧ k = i) → cy_en g ad (sAI h s i j v) t k = cy_en g ad h t k := by
  intro t k hn
  have e1 : xAI (sAI h s i j v) t k = xAI h t k := by
    funext z
    exact if_neg (fun q => hn ⟨q.1, q.2.1⟩)
  unfold cy_en
  split
  · rfl
  · rw [e1]; rfl
  · rfl
  · rfl
  · rfl
  · rfl
  · rw [e1]; rfl
theorem cy_upd_s {s i j : Nat} {v : Int32} : xAI (sAI h s i j v) s i = fun z => if z = j then v else xAI h s i z := by
  funext z
  show (if s = s ∧ i = i ∧ z = j then v else _) = _
  simp only [true_and]
  rfl
theorem Rel.ai {ad : Nat → Nat → Nat} {H H1 : Heap} {s i j : Nat} {v : Int32} (hR : Rel g ad h H) (hi : i < xCN h s) (h8 : cy_kd s ≠ 8) (hat : va_at (cy_D g) vwCl (ad s i, cy_en g ad (sAI h s i j v) s i) H1) (oq : ∀ q, q ≠ ad s i → H1[q]? = H[q]?) (hz : H1.size = H.size) : Rel g ad (sAI h s i j v) H1 :=
  hR.put hi h8 rfl rfl rfl hat oq hz (fun t k _ hn => cy_en_arr h8 t k hn) (fun t k ht => by funext z; exact if_neg (fun q => by rw [q.1] at ht; exact h8 ht)) hR.2.2.2.1
theorem wx_iast {s i : Nat} {x v : Int32} (hs : cy_kd s = 2) (hin : vp_in x (cy_ln h s)) (hd : decode (mC M) pc = .ok (.iastore, 1))
    (kk : WP g M d uc us (pc + 1) L st (sAI h s i x.toNatClampNeg v) Φ) : WP g M d uc us pc L (.inl (.int v) :: .inl (.int x) :: .inr (s, some i) :: st) h Φ := by
  intro hg p e R s0 m args below meth c H locs cells slots ls ad ad0 cn0 hE hd9 hdl hc hs9 hr hx hR hB hS hl hwL hwS
  have hi : i < xCN h s := (cy_top (cy_pop (cy_pop hwS))).2.2 i rfl
  have h8 : cy_kd s ≠ 8 := by rw [hs]; decide
  have hK := cy_K hg hE.2.2.2.2.2.2.1
  refine W.iast hE.1 hE.2.1 (cy_arr hR hi hs) ((cy_ty hK).1 (cy_ln h s) (fun j => .int (xAI h s i j))) (fun q => by cases q) (by show ¬ (x < 0 ∨ (arrV _ _ _).slots.size ≤ _); rw [arrV_size]; exact hin) rfl rfl hd fun H1 e1 z oq => ?_
  refine kk hg p e R s0 m args below meth c H1 _ cells slots ls ad ad0 cn0 hE hd9 hdl hc hs9 hr hx (hR.ai hi h8 ?_ oq z) hB (hS.put z oq (hR.2.2.1 s i hi h8)) hl hwL (cy_pop (cy_pop (cy_pop hwS)))
  unfold cy_en
  rw [hs]
  show H1[ad s i]? = some (vp_cell _ _)
  rw [e1, cy_upd_s]
  rw [vp_cell_i, vp_cell_i, arrV_store]
  congr 2
  funext q
  by_cases hq : q = x.toNatClampNeg
  · subst hq
    simp [updV]
  · simp [updV, hq]
theorem wx_zast {s i : Nat} {x v : Int32} (hs : cy_kd s = 3) (hin : vp_in x (cy_ln h s)) (hv : narrow .boolean (.int v) = .int v) (hd : decode (mC M) pc = .ok (.bastore, 1))
    (kk : WP g M d uc us (pc + 1) L st (sAI h s i x.toNatClampNeg v) Φ) : WP g M d uc us pc L (.inl (.int v) :: .inl (.int x) :: .inr (s, some i) :: st) h Φ := by
  intro hg p e R s0 m args below meth c H locs cells slots ls ad ad0 cn0 hE hd9 hdl hc hs9 hr hx hR hB hS hl hwL hwS
  have hi : i < xCN h s := (cy_top (cy_pop (cy_pop hwS))).2.2 i rfl
  have h8 : cy_kd s ≠ 8 := by rw [hs]; decide
  have hK := cy_K hg hE.2.2.2.2.2.2.1
  refine W.zast hE.1 hE.2.1 (cy_boo hR hi hs) ((cy_ty hK).2.1 (cy_ln h s) (fun j => .int (xAI h s i j))) (fun q => by cases q) (by show ¬ (x < 0 ∨ (arrV _ _ _).slots.size ≤ _); rw [arrV_size]; exact hin) rfl rfl hd fun H1 e1 z oq => ?_
  refine kk hg p e R s0 m args below meth c H1 _ cells slots ls ad ad0 cn0 hE hd9 hdl hc hs9 hr hx (hR.ai hi h8 ?_ oq z) hB (hS.put z oq (hR.2.2.1 s i hi h8)) hl hwL (cy_pop (cy_pop (cy_pop hwS)))
  unfold cy_en
  rw [hs]
  show H1[ad s i]? = some (vp_cell _ _)
  rw [e1, cy_upd_s]
  rw [vp_cell_i, vp_cell_i, arrV_store]
  congr 2
  funext q
  by_cases hq : q = x.toNatClampNeg
  · subst hq
    simp [updV, hv]
  · simp [updV, hq]
theorem cy_kd4 {t : Nat} (h : cy_kd t = 4) : t = 17 := by
  unfold cy_kd at h
  repeat' split at h
  all_goals first | omega | (cases h)
theorem cy_kd5 {t : Nat} (h : cy_kd t = 5) : t = 18 := by
  unfold cy_kd at h
  repeat' split at h
  all_goals first | omega | (cases h)
/-- a row's length -/
theorem wx_alen {s i : Nat} {v : Int32} (hs : cy_kd s = 2 ∨ cy_kd s = 3 ∨ cy_kd s = 8) (hv : Int32.ofNat (cy_ln h s) = v) (hd : decode (mC M) pc = .ok (.arraylength, 1))
    (kk : WP g M d uc us (pc + 1) L (.inl (.int v) :: st) h Φ) : WP g M d uc us pc L (.inr (s, some i) :: st) h Φ := by
  intro hg p e R s0 m args below meth c H locs cells slots ls ad ad0 cn0 hE hd9 hdl hc hs9 hr hx hR hB hS hl hwL hwS
  have hi : i < xCN h s := (cy_top hwS).2.2 i rfl
  have hk := kk hg p e R s0 m args below meth c H locs cells slots ls ad ad0 cn0 hE hd9 hdl hc hs9 hr hx hR hB hS hl hwL (cy_push cy_num (cy_pop hwS))
  rcases hs with h2 | h2 | h2
  · exact va_alen hE.1 hE.2.1 (cy_K hg hE.2.2.2.2.2.2.1) (cy_P1 (cy_arr hR hi h2)) 0 0 rfl rfl hv hd hk
  · exact va_alen hE.1 hE.2.1 (cy_K hg hE.2.2.2.2.2.2.1) (cy_P1 (cy_boo hR hi h2)) 0 1 rfl rfl hv hd hk
  · obtain ⟨scr, h1, h2, h3, h4, h5⟩ := va_X.moved hE.2.2.2.2.2.2.1.alike (cy_sta hR hi h2)
    exact W.alen (n := v) hE.1 hE.2.1 h1 h2 (by rw [h4]; exact hv) rfl rfl hd hk
/-- CARBON -/
theorem wx_carbon {index : Nat} (hw : Cond.fieldLinkNest (mO M) index "Connectory" "CARBON" "[I" "Connectory" ∈ lw_tbl) (hi : 0 < xCN h 15) (hd : decode (mC M) pc = .ok (.getstatic index, 3))
    (kk : WP g M d uc us (pc + 3) L (.inr (15, some 0) :: st) h Φ) : WP g M d uc us pc L st h Φ := by
  intro hg p e R s0 m args below meth c H locs cells slots ls ad ad0 cn0 hE hd9 hdl hc hs9 hr hx hR hB hS hl hwL hwS
  have hk := kk hg p e R s0 m args below meth c H locs cells slots ls ad ad0 cn0 hE hd9 hdl hc hs9 hr hx hR hB hS hl hwL (cy_push ⟨by decide, by decide, fun i e => by cases e; exact hi⟩ hwS)
  have ha : ad 15 0 = cy_ca g := hR.2.2.2.2.2.2.2.2.2.1 hi
  have hZ := hg.2.2.2.2.2.1
  have hold : ∀ q, q < cy_B g → s0.heap[q]? = (cy_s g).heap[q]? := fun q hq => by
    rw [← hR.2.2.2.2.2.2.2.1 q hq]
    exact (hS.2.1 q (Nat.lt_of_lt_of_le hq hB) (Nat.not_le.mpr hq)).symm
  have hZ2 : va_Z "Connectory" "CARBON" "[I" (.ref (cy_ca g)) (cy_A g) s0 s0.heap := va_Z.moved hE.2.2.2.2.2.2.1.alike (by
    obtain ⟨cf, kf, fi, f, a, cell, h1, h2, h3, h4, h5, h6, h7, h8⟩ := hZ
    exact ⟨cf, kf, fi, f, a, cell, h1, h2, h3, h4, by rw [hold a (Nat.not_le.mp h8)]; exact h5, h6, h7, h8⟩)
  refine va_getsN (v := .ref (cy_ca g)) hE.1 hE.2.1 hZ2 hS hE.2.2.2.2.1 (va_Nw.use rfl (va_Nw.warmF hE.2.2.2.2.2.2.1 (va_Nw.of rfl (hg.2.1 _ hw)))) (fun _ h => h) hd ?_
  rw [← ha]
  exact hk
end ARRAYS
