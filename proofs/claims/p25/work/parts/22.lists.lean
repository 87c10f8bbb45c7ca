/-! ===== own: the JDK's lists over the abstract judgement ===== -/
section LISTS
variable {g : GT} {M : MT} {d uc us pc : Nat} {L : List (Nat × AV)} {st : List AV} {h : Hp} {Φ : Rs → Hp → Prop}
theorem cy_lst {ad : Nat → Nat → Nat} {H : Heap} {s i : Nat} (hR : Rel g ad h H) (hi : i < xCN h s) (hk : cy_kd s = 6) : va_at (cy_D g) vwCl (ad s i, .inr (0, [.int (xFI h (100 * s) 0), .ref (if xCN h (s + 2) = 0 then cy_ea g else ad (s + 2) 0), .int (nI (xLS h s))])) H := by
  have h1 := hR.1 s i hi
  unfold cy_ok at h1
  rw [if_neg (by rw [hk]; decide)] at h1
  unfold cy_en at h1
  rw [hk] at h1
  exact h1
/-- a call on a list -/
theorem wx_virtualL {M' : MT} {index n d' bc bs s i : Nat} {As rest : List AV} {r0 : Option AV} {h0 : Hp} (hs6 : cy_kd s = 6) (hCC : (mY M').cls = RJx4a65c) (hok : CallOk M M' index n) (hl : Cond.methodLink (mO M) index (mY M') ∈ lw_tbl) (hin : Cond.instanceMethod (mY M') ∈ lw_tbl) (hsel : Cond.selects RJx4a65c (mY M') (mY M') ∈ lw_tbl) (hdd : d' + 1 ≤ d) (hC : Ctr g M' d' bc bs (.inr (s, some i) :: As) h (cy_det (.inl r0) h0)) (hst : st = As.reverse ++ .inr (s, some i) :: rest) (hn : As.length = n) (hr8 : (rest.map cy_ct).sum ≤ 8)
    (hd : decode (mC M) pc = .ok (.invokevirtual index, 3)) (kk : WP g M d uc us (pc + 3) L (r0.toList ++ rest) h0 Φ) : WP g M d (uc + bc) (us + bs) pc L st h Φ := by
  subst hst
  refine wp_callc (rest := rest) (Ψ := cy_det (.inl r0) h0) (fun hg p e R s0 m args below meth c H locs cells slots ls ad hE hd9 hdl hc hs hR hlv hwS => ⟨((.inr (s, some i) :: As).map (cy_cv ad)).toArray, ?_⟩) (fun cn hw v hv => hw v (List.mem_append_right _ (List.mem_cons_of_mem _ hv))) (fun r h' e => by obtain ⟨e1, rfl⟩ := e; cases e1; exact kk) (fun E h' e => nomatch e.1)
  have hW := hE.2.2.2.2.2.2.1
  have hwi : i < xCN h s := (hwS _ (List.mem_append_right _ List.mem_cons_self)).2.2 i rfl
  have hwa : ∀ v ∈ (.inr (s, some i) :: As : List AV), cy_wf (xCN h) v := fun v hv => by
    rcases List.mem_cons.mp hv with rfl | hv
    · exact hwS _ (List.mem_append_right _ List.mem_cons_self)
    · exact hwS v (List.mem_append_left _ (List.mem_reverse.mpr hv))
  exact vx_runV (nL := mN M) (Ts := []) (C := RJx4a65c) (b := ad s i) (As := As.map (cy_cv ad)) ⟨hE.1, hE.2.1, hE.2.2.1, hE.2.2.2.2.1, fun w hw => by cases hw⟩ (hC hg ad hwa) ⟨cy_callB hg hW hok hl hdd hd9 hdl, cy_wd hg hW hin (by rfl), cy_wd hg hW hsel (by rfl)⟩ ⟨cy_blind, va_recv (cy_K hg hW) (cy_P1 (cy_lst hR hwi hs6)) (q0 := 0) (ci := 0) rfl rfl, fun U hU hWU => ⟨rfl, by rw [hU]; exact hR, State.WarmedH.trans hW hWU⟩⟩ rfl (by rw [List.length_map]; exact hn) hlv.1 cy_rev (lv_room (cy_cat hr8)) hd ⟨hc, hs⟩
def cy_cap (h : Hp) (s : Nat) : Nat := if xCN h (s + 2) = 0 then 10 else if xLS h s < xLS h (s + 2) then xLS h (s + 2) else xLS h (s + 2) + xLS h (s + 2) / 2
/-- the list s with one element more -/
def H_add (h : Hp) (s e : Nat) : Hp := sCN (sLS (sLS (sLE (sFI h (100 * s) 0 (xFI h (100 * s) 0 + 1)) s (xLS h s) e) s (xLS h s + 1)) (s + 2) (cy_cap h s)) (s + 2) 1
/-- a row of numbers filled -/
def H_fill (h : Hp) (s i : Nat) (v : Int32) : Hp := (h.1, h.2.1, fun x y z => if x = s ∧ y = i ∧ z < cy_ln h s then v else h.2.2.1 x y z, h.2.2.2)
/-- a new, empty list s -/
def H_newL (h : Hp) (s : Nat) : Hp := sLS (sFI (sCN h s 1) (100 * s) 0 0) s 0
end LISTS
