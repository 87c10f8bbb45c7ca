section FIELDS
variable {g : GT} {M : MT} {d uc us pc : Nat} {L : List (Nat × AV)} {st : List AV} {h : Hp} {Φ : Rs → Hp → Prop}
theorem cy_fv_int {ad : Nat → Nat → Nat} {s k i : Nat} (ht : cy_ft (100 * s + k) = none) : cy_fv ad h s k i = .int (xFI h (100 * s + k) i) := by
  unfold cy_fv; rw [ht]
theorem cy_fv_ref {ad : Nat → Nat → Nat} {s k i t : Nat} (ht : cy_ft (100 * s + k) = some t) : cy_fv ad h s k i = va_rf ((xFR h (100 * s + k) i).map (ad t)) := by
  unfold cy_fv; rw [ht]
theorem cy_words {g : GT} (hg : SF g) {s : State} {args : Array Value} (hW : (cy_s g).WarmedH s.vm) {ws : List Cond} (h : ∀ w ∈ ws, w ∈ lw_tbl ∧ goodWord w = true) : ∀ w ∈ ws, w.before args s = true :=
  fun w hw => cy_wd hg hW (h w hw).1 (h w hw).2
/-- a number read from a field -/
theorem wx_getI {s k f i index : Nat} {C : String} {T : u_T} {N : Nat} {ty : Nat → FieldType} (hC : ClsOk s C T N ty) (hk : k < N) (hf : 100 * s + k = f) (ht : cy_ft f = none)
    (hw : Cond.fieldLink (mO M) index (T k).1 (T k).2.1 (T k).2.2.1 ∈ lw_tbl) (hd : decode (mC M) pc = .ok (.getfield index, 3))
    (kk : WP g M d uc us (pc + 3) L (.inl (.int (xFI h f i)) :: st) h Φ) : WP g M d uc us pc L (.inr (s, some i) :: st) h Φ := by
  subst hf
  intro hg p e R s0 m args below meth c H locs cells slots ls ad ad0 cn0 hE hd9 hdl hc hs hr hx hR hB hS hl hwL hwS
  have hi : i < xCN h s := (cy_top hwS).2.2 i rfl
  obtain ⟨c1, c2, c3, c4, c5, c6, c7⟩ := hC
  exact va_get hE.1 hE.2.1 (cy_words hg hE.2.2.2.2.2.2.1 c2) (fun w hw => hw) hE.2.2.2.2.1 (cy_K hg hE.2.2.2.2.2.2.1) (cy_P1 (cy_obj hR hi c6)) 0 rfl c1 k hk (cy_wd hg hE.2.2.2.2.2.2.1 hw (by rfl)) (fun _ h => h)
    (v := .int (xFI h (100 * s + k) i)) (by rw [cy_fs_at _ _ _ _ _ (by rw [← c5]; exact hk), cy_fv_int ht]) hd
    (kk hg p e R s0 m args below meth c H locs cells slots ls ad ad0 cn0 hE hd9 hdl hc hs hr hx hR hB hS hl hwL (cy_push cy_num (cy_pop hwS)))
/-- an object read from a field -/
theorem wx_getR {s k f i t index : Nat} {o : Option Nat} {C : String} {T : u_T} {N : Nat} {ty : Nat → FieldType} (hC : ClsOk s C T N ty) (hk : k < N) (hf : 100 * s + k = f) (ht : cy_ft f = some t)
    (hw : Cond.fieldLink (mO M) index (T k).1 (T k).2.1 (T k).2.2.1 ∈ lw_tbl) (ho : xFR h f i = o) (hd : decode (mC M) pc = .ok (.getfield index, 3))
    (kk : WP g M d uc us (pc + 3) L (.inr (t, o) :: st) h Φ) : WP g M d uc us pc L (.inr (s, some i) :: st) h Φ := by
  subst hf
  subst ho
  intro hg p e R s0 m args below meth c H locs cells slots ls ad ad0 cn0 hE hd9 hdl hc hs hr hx hR hB hS hl hwL hwS
  have hi : i < xCN h s := (cy_top hwS).2.2 i rfl
  obtain ⟨c1, c2, c3, c4, c5, c6, c7⟩ := hC
  have hs99 : (100 * s + k) / 100 = s := by
    have hk9 : k < 100 := by
      have : cy_nF s ≤ 44 := by
        unfold cy_nF cy_tg
        match s with
        | 0 | 1 | 2 | 3 | 4 | 5 | 6 | 7 | 8 | 9 | 10 => decide
        | s + 11 => simp
      omega
    omega
  have hwt : cy_wf (xCN h) (.inr (t, xFR h (100 * s + k) i)) := by
    rcases c7 k hk with ⟨-, h9⟩ | ⟨t', h9, n1, n2, -⟩
    · rw [ht] at h9; cases h9
    · cases ht.symm.trans h9
      exact ⟨n1, n2, fun j e9 => hR.2.2.2.1 _ t i j ht (by rw [hs99]; exact hi) e9⟩
  exact va_get hE.1 hE.2.1 (cy_words hg hE.2.2.2.2.2.2.1 c2) (fun w hw => hw) hE.2.2.2.2.1 (cy_K hg hE.2.2.2.2.2.2.1) (cy_P1 (cy_obj hR hi c6)) 0 rfl c1 k hk (cy_wd hg hE.2.2.2.2.2.2.1 hw (by rfl)) (fun _ h => h)
    (v := cy_cv ad (.inr (t, xFR h (100 * s + k) i))) (by rw [cy_fs_at _ _ _ _ _ (by rw [← c5]; exact hk), cy_fv_ref ht]; rfl) hd
    (kk hg p e R s0 m args below meth c H locs cells slots ls ad ad0 cn0 hE hd9 hdl hc hs hr hx hR hB hS hl hwL (cy_push hwt (cy_pop hwS)))
/-- the machine's part of a write into a field -/
theorem cy_put {p : Program} {l : Launch} {e : Env} {R : Room} {s0 : State} {m : MethodId} {args : Array Value} {below : List Frame} {meth : Method} {c : Code} {H : Heap} {locs : List Loc} {cells slots : Nat} {Q : State → Prop} {ls : Array Slot} {rest : List Value}
    {s a k index : Nat} {C : String} {T : u_T} {N : Nat} {ty : Nat → FieldType} {fs : List Value} {v : Value} (hg : SF g) (hE : cy_En g M p s0 m args meth c) (hC : ClsOk s C T N ty) (hk : k < N) (hL : mL M = 0)
    (hw : Cond.fieldLink (mO M) index (T k).1 (T k).2.1 (T k).2.2.1 ∈ lw_tbl) (hfin : (T k).2.2.2 = false ∨ ((T k).2.2.2 = true ∧ (mY M).name = "<init>" ∧ (T k).1 = mO M))
    (hP : va_at (cy_D g) vwCl (a, .inr (s, fs)) H) (hn : narrow (ty k) v = v) (hfit : fits (ty k) v = true) (hl : k < fs.length) (hd : decode (mC M) pc = .ok (.putfield index, 3))
    (kk : ∀ H1 : Heap, va_at (cy_D g) vwCl (a, .inr (s, fs.set k v)) H1 → (∀ q, q ≠ a → H1[q]? = H[q]?) → H1.size = H.size → ∀ j : Nat, W p l e R s0 m args below meth c H1 (locs ++ [⟨a, j⟩]) cells slots Q (F0 m (pc + 3) ls rest)) :
    W p l e R s0 m args below meth c H locs cells slots Q (F0 m pc ls (v :: .ref a :: rest)) := by
  obtain ⟨c1, c2, c3, c4, c5, c6, c7⟩ := hC
  have hW := hE.2.2.2.2.2.2.1
  have hown := hE.2.2.2.2.1
  have hK := cy_K hg hW
  have hts : ∀ w ∈ u_ws C T N, w.before args s0 = true := cy_words hg hW c2
  have hap := va_apart (own := mO M) hts (fun w hw => hw) ty c3 c4 hK c1
  have hlink : (Cond.fieldLink (mO M) index (T k).1 (T k).2.1 (T k).2.2.1).before args s0 = true := cy_wd hg hW hw (by rfl)
  obtain ⟨r, h1, cell, q1, q2, q3, q4⟩ := hP
  have hr : r = (C, T, N) := Option.some.inj (h1.symm.trans c1)
  subst hr
  obtain ⟨hS, hfc, kC, hkC, hkind⟩ := hK.1 s _ c1
  obtain ⟨cf, kf, fi, f, hi, hsl⟩ := hS k hk
  have hlay := hts _ (u_in_lay hk)
  have hst := (u_facts hfc hkC (u_lays hts (fun w hw => hw) hk) hi).1
  rcases hfin with hfin | ⟨hfin, hin2, hdecl⟩
  · unfold u_lay at hlay
    rw [if_neg (by rw [hfin]; decide)] at hlay
    have h6 := u_store hfc hkC hkind hlay hi (c3 k hk) hn hfit
    refine W.putK hE.1 hE.2.1 (f := f) ⟨hown, hlink, ⟨_, _, _, hi⟩, hst⟩ (by rw [q2]; exact h6) q1 q3 (by rw [hsl]; exact k2_hasslot (q4 k hk)) rfl rfl hd fun H' e1 e2 e3 => ?_
    rw [hsl] at e1 ⊢
    exact kk H' ⟨_, c1, t_OB.to (V := updV (vp_V fs) k v) ⟨_, e1, q2, q3, t_set q4 hap hk v⟩ (fun j _ => vp_updV_set hl v j)⟩ e3 e2 _
  · unfold u_lay at hlay
    rw [if_pos hfin] at hlay
    have hcf : m.cls = cf := by
      obtain ⟨_, _, c', _, _, _, -, -, hf', -, -, -, hown2, -⟩ := Cond.laysFinal_spec hlay
      have e1 : c' = cf := by have := hi.symm.trans hf'; simp at this; exact this.1.symm
      rw [hdecl] at hown2
      rw [← e1]; exact Option.some.inj (hown.symm.trans hown2)
    have h6 := u_fits hfc hkC hkind (Or.inr hlay) hi (c3 k hk) hn hfit
    refine W.putFinK hE.1 hE.2.1 hown hlink hi hst hcf (by rw [(hE.2.2.2.2.2.2.2.1 hL).1]; exact hin2) (by rw [q2]; exact h6) q1 q3 (by rw [hsl]; exact k2_hasslot (q4 k hk)) rfl rfl hd fun H' e1 e2 e3 => ?_
    rw [hsl] at e1 ⊢
    exact kk H' ⟨_, c1, t_OB.to (V := updV (vp_V fs) k v) ⟨_, e1, q2, q3, t_set q4 hap hk v⟩ (fun j _ => vp_updV_set hl v j)⟩ e3 e2 _
theorem cy_nF_le (s : Nat) : cy_nF s ≤ 44 := by
  unfold cy_nF cy_tg
  match s with
  | 0 | 1 | 2 | 3 | 4 | 5 | 6 | 7 | 8 | 9 | 10 => decide
  | s + 11 => simp
/-- two heaps that differ in one field of one object -/
theorem cy_en_field {ad : Nat → Nat → Nat} {h h1 : Hp} {s k i : Nat} (hk : k < cy_nF s) (hFI : ∀ f j, ¬ (f = 100 * s + k ∧ j = i) → xFI h1 f j = xFI h f j) (hFR : ∀ f j, ¬ (f = 100 * s + k ∧ j = i) → xFR h1 f j = xFR h f j) (hAI : xAI h1 = xAI h) (hCN : xCN h1 = xCN h) (hLE : xLE h1 = xLE h) (hLS : xLS h1 = xLS h) (hAL : xAL h1 = xAL h) (hAD : xAD h1 = xAD h) (hs : s ≤ 10) :
    ∀ t j, ¬ (t = s ∧ j = i) → cy_en g ad h1 t j = cy_en g ad h t j := by
  intro t j hn
  have h44 := cy_nF_le
  have hln : cy_ln h1 t = cy_ln h t := by unfold cy_ln; rw [hLS]
  have hfs : ∀ t j, ¬ (t = s ∧ j = i) → cy_fs ad h1 t j = cy_fs ad h t j := by
    intro t j hn
    unfold cy_fs
    refine List.map_congr_left fun k' hk' => ?_
    have hk2 : k' < cy_nF t := List.mem_range.mp hk'
    have hd : ¬ (100 * t + k' = 100 * s + k ∧ j = i) := by
      rintro ⟨e1, e2⟩
      have := h44 t
      have := h44 s
      exact hn ⟨by omega, e2⟩
    unfold cy_fv
    rw [hFI _ _ hd, hFR _ _ hd]
  unfold cy_en
  split
  · rw [hfs t j hn]
  · rw [hln, hAI]
  · rw [hAL]
  · rw [hAD]
  · rename_i hkd
    have ht : t = 11 ∨ t = 12 := by
      unfold cy_kd at hkd
      repeat' split at hkd
      all_goals first | omega | (cases hkd)
    rw [hFI (100 * t) 0 (by rintro ⟨e1, -⟩; have := h44 s; omega), hCN, hLS]
  · rw [hLS, hLE]
  · rw [hln, hAI]
theorem cy_fs_set {ad : Nat → Nat → Nat} {h h1 : Hp} {s k i : Nat} {v : Value} (hk : k < cy_nF s) (hv : cy_fv ad h1 s k i = v) (hFI : ∀ f, f ≠ 100 * s + k → xFI h1 f i = xFI h f i) (hFR : ∀ f, f ≠ 100 * s + k → xFR h1 f i = xFR h f i) : (cy_fs ad h s i).set k v = cy_fs ad h1 s i := by
  refine List.ext_getElem? fun j => ?_
  by_cases hj : j < cy_nF s
  · rw [cy_fs_at ad h1 s i j hj]
    by_cases e : j = k
    · subst e
      rw [List.getElem?_set_self (by simp [cy_fs, hj]), hv]
    · rw [List.getElem?_set_ne (Ne.symm e), cy_fs_at ad h s i j hj]
      unfold cy_fv
      rw [hFI _ (by omega), hFR _ (by omega)]
  · have l1 : ((cy_fs ad h s i).set k v).length ≤ j := by simp [cy_fs]; omega
    have l2 : (cy_fs ad h1 s i).length ≤ j := by simp [cy_fs]; omega
    rw [List.getElem?_eq_none l1, List.getElem?_eq_none l2]
theorem cy_kd1 {s : Nat} (h : cy_kd s = 1) : s ≤ 10 ∧ cy_kd s ≠ 8 := by
  refine ⟨?_, by rw [h]; decide⟩
  unfold cy_kd at h
  repeat' split at h
  all_goals first | omega | (cases h)
/-- a number put into a field -/
theorem wx_putI {s k f i index : Nat} {x : Int32} {C : String} {T : u_T} {N : Nat} {ty : Nat → FieldType} (hC : ClsOk s C T N ty) (hk : k < N) (hf : 100 * s + k = f) (ht : cy_ft f = none) (hL : mL M = 0)
    (hw : Cond.fieldLink (mO M) index (T k).1 (T k).2.1 (T k).2.2.1 ∈ lw_tbl) (hfin : (T k).2.2.2 = false ∨ ((T k).2.2.2 = true ∧ (mY M).name = "<init>" ∧ (T k).1 = mO M)) (hd : decode (mC M) pc = .ok (.putfield index, 3))
    (kk : WP g M d uc us (pc + 3) L st (sFI h f i x) Φ) : WP g M d uc us pc L (.inl (.int x) :: .inr (s, some i) :: st) h Φ := by
  subst hf
  intro hg p e R s0 m args below meth c H locs cells slots ls ad ad0 cn0 hE hd9 hdl hc hs hr hx hR hB hS hl hwL hwS
  have hi : i < xCN h s := (cy_top (cy_pop hwS)).2.2 i rfl
  have hC9 := hC
  obtain ⟨c1, c2, c3, c4, c5, c6, c7⟩ := hC
  have hty : ty k = .int := by
    rcases c7 k hk with ⟨h1, -⟩ | ⟨t, h1, -⟩
    · exact h1
    · rw [ht] at h1; cases h1
  have hkF : k < cy_nF s := by rw [← c5]; exact hk
  obtain ⟨hs10, hs8⟩ := cy_kd1 c6
  refine cy_put (v := .int x) hg hE hC9 hk hL hw hfin (cy_obj hR hi c6) (by rw [hty]; rfl) (by rw [hty]; rfl) (by simp [cy_fs]; exact hkF) hd fun H1 e1 e2 e3 j => ?_
  have hA : cy_A g (ad s i) := hR.2.2.1 s i hi hs8
  have n1 : ∀ f j, ¬ (f = 100 * s + k ∧ j = i) → xFI (sFI h (100 * s + k) i x) f j = xFI h f j := fun f j hn => if_neg hn
  refine kk hg p e R s0 m args below meth c H1 _ cells slots ls ad ad0 cn0 hE hd9 hdl hc hs hr hx ?_ hB (hS.put e3 e2 hA) hl hwL (cy_pop (cy_pop hwS))
  refine hR.put hi hs8 rfl rfl rfl ?_ e2 e3 (fun t j _ hn => cy_en_field (h := h) (h1 := sFI h (100 * s + k) i x) hkF n1 (fun _ _ _ => rfl) rfl rfl rfl rfl rfl rfl hs10 t j hn) (fun _ _ _ => rfl) hR.2.2.2.1
  unfold cy_en
  rw [c6]
  rw [← cy_fs_set (h := h) (h1 := sFI h (100 * s + k) i x) (v := .int x) hkF ?_ (fun f hf => n1 f i (fun z => hf z.1)) (fun _ _ => rfl)]
  · exact e1
  · rw [cy_fv_int ht]
    exact congrArg Value.int (if_pos ⟨rfl, rfl⟩)
/-- an object, or none, put into a field -/
theorem wx_putR {s k f i t t0 index : Nat} {o : Option Nat} {C : String} {T : u_T} {N : Nat} {ty : Nat → FieldType} (hC : ClsOk s C T N ty) (hk : k < N) (hf : 100 * s + k = f) (ht : cy_ft f = some t) (hto : o = none ∨ t0 = t) (hL : mL M = 0)
    (hw : Cond.fieldLink (mO M) index (T k).1 (T k).2.1 (T k).2.2.1 ∈ lw_tbl) (hfin : (T k).2.2.2 = false ∨ ((T k).2.2.2 = true ∧ (mY M).name = "<init>" ∧ (T k).1 = mO M)) (hd : decode (mC M) pc = .ok (.putfield index, 3))
    (kk : WP g M d uc us (pc + 3) L st (sFR h f i o) Φ) : WP g M d uc us pc L (.inr (t0, o) :: .inr (s, some i) :: st) h Φ := by
  subst hf
  intro hg p e R s0 m args below meth c H locs cells slots ls ad ad0 cn0 hE hd9 hdl hc hs hr hx hR hB hS hl hwL hwS
  have hi : i < xCN h s := (cy_top (cy_pop hwS)).2.2 i rfl
  have hC9 := hC
  obtain ⟨c1, c2, c3, c4, c5, c6, c7⟩ := hC
  have hov : cy_cv ad (.inr (t0, o)) = va_rf (o.map (ad t)) := by
    rcases hto with rfl | rfl <;> rfl
  have hty : ∀ r : Option Nat, narrow (ty k) (va_rf r) = va_rf r ∧ fits (ty k) (va_rf r) = true := by
    rcases c7 k hk with ⟨-, h1⟩ | ⟨t', h1, -, -, -, h2⟩
    · rw [ht] at h1; cases h1
    · exact h2
  have hkF : k < cy_nF s := by rw [← c5]; exact hk
  obtain ⟨hs10, hs8⟩ := cy_kd1 c6
  have hs99 : (100 * s + k) / 100 = s := by have := cy_nF_le s; omega
  simp only [List.map_cons, hov]
  refine cy_put (v := va_rf (o.map (ad t))) hg hE hC9 hk hL hw hfin (cy_obj hR hi c6) (hty _).1 (hty _).2 (by simp [cy_fs]; exact hkF) hd fun H1 e1 e2 e3 j => ?_
  have hA : cy_A g (ad s i) := hR.2.2.1 s i hi hs8
  have n1 : ∀ f j, ¬ (f = 100 * s + k ∧ j = i) → xFR (sFR h (100 * s + k) i o) f j = xFR h f j := fun f j hn => if_neg hn
  refine kk hg p e R s0 m args below meth c H1 _ cells slots ls ad ad0 cn0 hE hd9 hdl hc hs hr hx ?_ hB (hS.put e3 e2 hA) hl hwL (cy_pop (cy_pop hwS))
  refine hR.put hi hs8 rfl rfl rfl ?_ e2 e3 (fun t j _ hn => cy_en_field (h := h) (h1 := sFR h (100 * s + k) i o) hkF (fun _ _ _ => rfl) n1 rfl rfl rfl rfl rfl rfl hs10 t j hn) (fun _ _ _ => rfl) ?_
  · unfold cy_en
    rw [c6]
    rw [← cy_fs_set (h := h) (h1 := sFR h (100 * s + k) i o) (v := va_rf (o.map (ad t))) hkF ?_ (fun _ _ => rfl) (fun f hf => n1 f i (fun z => hf z.1))]
    · exact e1
    · rw [cy_fv_ref ht]
      exact congrArg (fun z => va_rf (Option.map (ad t) z)) (if_pos ⟨rfl, rfl⟩)
  · intro k' t' a j hk' ha hj
    by_cases hn : k' = 100 * s + k ∧ a = i
    · obtain ⟨rfl, rfl⟩ := hn
      cases ht.symm.trans hk'
      have hj2 : o = some j := (if_pos ⟨rfl, rfl⟩ : xFR (sFR h (100 * s + k) a o) (100 * s + k) a = o).symm.trans hj
      have hw9 := (cy_top hwS).2.2 j hj2
      rcases hto with rfl | rfl
      · cases hj2
      · exact hw9
    · rw [n1 k' a hn] at hj
      exact hR.2.2.2.1 k' t' a j hk' ha hj
end FIELDS
