section ALLOC
variable {g : GT} {M : MT} {d uc us pc : Nat} {L : List (Nat × AV)} {st : List AV} {h : Hp} {Φ : Rs → Hp → Prop}
def cy_ad (ad : Nat → Nat → Nat) (s n a : Nat) : Nat → Nat → Nat := fun t j => if t = s ∧ j = n then a else ad t j
theorem cy_en_new {ad : Nat → Nat → Nat} {h1 : Hp} {H : Heap} {s a : Nat} (hR : Rel g ad h H) (hs : s ≠ 13 ∧ s ≠ 14) (hFI : ∀ k j, j < xCN h (k / 100) → xFI h1 k j = xFI h k j) (hFR : ∀ k j, j < xCN h (k / 100) → xFR h1 k j = xFR h k j) (hAI : ∀ t j, j < xCN h t → xAI h1 t j = xAI h t j) (hLE : xLE h1 = xLE h) (hLS : xLS h1 = xLS h) (hAL : xAL h1 = xAL h) (hAD : xAD h1 = xAD h) (hCN : ∀ t, t ≠ s → xCN h1 t = xCN h t) :
    ∀ t j, j < xCN h t → cy_en g (cy_ad ad s (xCN h s) a) h1 t j = cy_en g ad h t j := by
  intro t j hj
  have hold : ∀ t j, j < xCN h t → cy_ad ad s (xCN h s) a t j = ad t j := fun t j hj => if_neg (by rintro ⟨rfl, rfl⟩; omega)
  have hln : cy_ln h1 t = cy_ln h t := by unfold cy_ln; rw [hLS]
  have hfs : cy_fs (cy_ad ad s (xCN h s) a) h1 t j = cy_fs ad h t j := by
    unfold cy_fs
    refine List.map_congr_left fun k hk => ?_
    have hk2 : k < cy_nF t := List.mem_range.mp hk
    have h44 := cy_nF_le t
    have e1 : (100 * t + k) / 100 = t := by omega
    unfold cy_fv
    rw [hFI _ _ (by rw [e1]; exact hj), hFR _ _ (by rw [e1]; exact hj)]
    split
    · rfl
    · rename_i t' ht'
      cases hr : xFR h (100 * t + k) j with
      | none => rfl
      | some r => exact congrArg Value.ref (hold t' r (hR.2.2.2.1 _ t' j r ht' (by rw [e1]; exact hj) hr))
  unfold cy_en
  split
  · rw [hfs]
  · rw [hln, hAI t j hj]
  · rw [hAL]
  · rw [hAD]
  · rename_i hkd
    have ht : t = 11 ∨ t = 12 := by
      unfold cy_kd at hkd
      repeat' split at hkd
      all_goals first | omega | (cases hkd)
    have h0 : 0 < xCN h t := Nat.lt_of_le_of_lt (Nat.zero_le _) hj
    have e1 : (100 * t) / 100 = t := by omega
    rw [hFI (100 * t) 0 (by rw [e1]; exact h0), hCN (t + 2) (by rcases ht with rfl | rfl; exact Ne.symm hs.1; exact Ne.symm hs.2), hLS]
    by_cases hz : xCN h (t + 2) = 0
    · rw [if_pos hz, if_pos hz]
    · rw [if_neg hz, if_neg hz, hold (t + 2) 0 (Nat.pos_of_ne_zero hz)]
  · rename_i hkd
    have ht : t = 13 ∨ t = 14 := by
      unfold cy_kd at hkd
      repeat' split at hkd
      all_goals first | omega | (cases hkd)
    rw [hLS, hLE]
    have e9 : (fun j => if j < xLS h (t - 2) then some (cy_ad ad s (xCN h s) a (cy_es t) (xLE h (t - 2) j)) else none) = (fun j => if j < xLS h (t - 2) then some (ad (cy_es t) (xLE h (t - 2) j)) else none) := by
      funext j
      by_cases hz : j < xLS h (t - 2)
      · have h5 := hR.2.2.2.2.1 (t - 2) j (by omega) hz
        rw [show t - 2 + 2 = t by omega] at h5
        rw [if_pos hz, if_pos hz, hold _ _ h5]
      · rw [if_neg hz, if_neg hz]
    rw [e9]
  · rw [hln, hAI t j hj]
theorem cy_ok_lt {ad : Nat → Nat → Nat} {H : Heap} {s i : Nat} (hR : Rel g ad h H) (hi : i < xCN h s) : ad s i < H.size := by
  have h1 := hR.1 s i hi
  unfold cy_ok at h1
  split at h1
  · obtain ⟨scr, q, -⟩ := h1
    exact (Array.getElem?_eq_some_iff.mp q).1
  · exact h1.lt
theorem cy_ft_lt {k t : Nat} (h : cy_ft k = some t) : k / 100 ≤ 10 := by
  rcases Nat.lt_or_ge (k / 100) 11 with h1 | h1
  · omega
  · unfold cy_ft at h
    have e1 : cy_tg.getD (k / 100) [] = [] := by
      rw [List.getD_eq_getElem?_getD, List.getElem?_eq_none (show cy_tg.length ≤ k / 100 from h1)]
      rfl
    rw [e1] at h
    simp at h
/-- one cell more -/
theorem Rel.new {ad : Nat → Nat → Nat} {h1 : Hp} {H H1 : Heap} {s : Nat} (hR : Rel g ad h H) (hs : s ≠ 13 ∧ s ≠ 14 ∧ s ≠ 11 ∧ s ≠ 12 ∧ s ≠ 15 ∧ s ≠ 16) (hs1 : s = 17 ∨ s = 18 → xCN h s = 0) (hFI : ∀ k j, j < xCN h (k / 100) → xFI h1 k j = xFI h k j) (hFR : ∀ k j, j < xCN h (k / 100) → xFR h1 k j = xFR h k j) (hFR0 : ∀ k t, cy_ft k = some t → k / 100 = s → xFR h1 k (xCN h s) = none) (hAI : ∀ t j, j < xCN h t → xAI h1 t j = xAI h t j) (hLE : xLE h1 = xLE h) (hLS : xLS h1 = xLS h) (hAL : xAL h1 = xAL h) (hAD : xAD h1 = xAD h)
    (hCN : xCN h1 = up1 (xCN h) s (xCN h s + 1)) (hat : va_at (cy_D g) vwCl (H.size, cy_en g (cy_ad ad s (xCN h s) H.size) h1 s (xCN h s)) H1) (hk8 : cy_kd s ≠ 8) (oq : ∀ q, q < H.size → H1[q]? = H[q]?) (hz : H1.size = H.size + 1) :
    Rel g (cy_ad ad s (xCN h s) H.size) h1 H1 ∧ Ext ad (xCN h) (cy_ad ad s (xCN h s) H.size) (xCN h1) := by
  have hRR := hR
  obtain ⟨r1, r2, r3, r4, r5, r6, r7, r8, r9, r10, r11, r12⟩ := hR
  have hold : ∀ t j, j < xCN h t → cy_ad ad s (xCN h s) H.size t j = ad t j := fun t j hj => if_neg (by rintro ⟨rfl, rfl⟩; omega)
  have hnew : cy_ad ad s (xCN h s) H.size s (xCN h s) = H.size := if_pos ⟨rfl, rfl⟩
  have hcn : ∀ t j, j < xCN h1 t → j < xCN h t ∨ (t = s ∧ j = xCN h s) := by
    intro t j hj
    rw [hCN] at hj
    unfold up1 at hj
    by_cases e : t = s
    · subst e
      rw [if_pos rfl] at hj
      by_cases e2 : j = xCN h t
      · exact Or.inr ⟨rfl, e2⟩
      · exact Or.inl (by omega)
    · rw [if_neg e] at hj
      exact Or.inl hj
  have hcn2 : ∀ t j, j < xCN h t → j < xCN h1 t := by
    intro t j hj
    rw [hCN]
    unfold up1
    by_cases e : t = s
    · subst e; rw [if_pos rfl]; omega
    · rw [if_neg e]; exact hj
  have hcn3 : ∀ t, t ≠ s → xCN h1 t = xCN h t := fun t e => by rw [hCN]; exact if_neg e
  have hen := cy_en_new (a := H.size) hRR ⟨hs.1, hs.2.1⟩ hFI hFR hAI hLE hLS hAL hAD hcn3
  have hlt := fun t j (hj : j < xCN h t) => cy_ok_lt hRR hj
  have hln : ∀ t, cy_ln h1 t = cy_ln h t := fun t => by unfold cy_ln; rw [hLS]
  refine ⟨⟨fun t j hj => ?_, fun t i u j hi hj e => ?_, fun t j hj h8 => ?_, fun k t i j hk hi hj => ?_, fun t j ht hj => ?_, fun t ht hc => ?_, by omega, fun q hq => ?_, fun t h11 h18 => ?_, fun h15 => ?_, fun t j hj h8 => ?_, fun q hq => ⟨by have := (r12 q hq).1; omega, by rw [oq q (r12 q hq).1]; exact (r12 q hq).2⟩⟩, fun t j hj => ⟨hcn2 t j hj, fun _ _ => hold t j hj⟩⟩
  · rcases hcn t j hj with hj | ⟨rfl, rfl⟩
    · have h0 := r1 t j hj
      unfold cy_ok at h0 ⊢
      by_cases h8 : cy_kd t = 8
      · rw [if_pos h8] at h0 ⊢
        rw [hln, hAI t j hj, hold t j hj]
        exact h0.kept (oq _ (hlt t j hj))
      · rw [if_neg h8] at h0 ⊢
        rw [hen t j hj, hold t j hj]
        exact h0.kept (oq _ (hlt t j hj))
    · unfold cy_ok
      rw [if_neg hk8, hnew]
      exact hat
  · rcases hcn t i hi with hi | ⟨rfl, rfl⟩ <;> rcases hcn u j hj with hj | ⟨rfl, rfl⟩
    · rw [hold t i hi, hold u j hj] at e
      exact r2 t i u j hi hj e
    · rw [hold t i hi, hnew] at e
      exact absurd (hlt t i hi) (by omega)
    · rw [hold u j hj, hnew] at e
      exact absurd (hlt u j hj) (by omega)
    · exact ⟨rfl, rfl⟩
  · rcases hcn t j hj with hj | ⟨rfl, rfl⟩
    · rw [hold t j hj]; exact r3 t j hj h8
    · rw [hnew]; exact r7
  · rcases hcn _ i hi with hi | ⟨e1, rfl⟩
    · rw [hFR k i hi] at hj
      exact hcn2 t j (r4 k t i j hk hi hj)
    · rw [hFR0 k t hk e1] at hj
      cases hj
  · rw [hLS] at hj
    rw [hLE]
    exact hcn2 _ _ (r5 t j ht hj)
  · rw [hcn3 t (by rcases ht with rfl | rfl; exact Ne.symm hs.2.2.1; exact Ne.symm hs.2.2.2.1)] at hc
    rw [hLS, hcn3 (t + 2) (by rcases ht with rfl | rfl; exact Ne.symm hs.1; exact Ne.symm hs.2.1)]
    exact r6 t ht hc
  · rw [oq q (by omega)]; exact r8 q hq
  · by_cases e : t = s
    · subst e
      rw [hCN]
      unfold up1
      rw [if_pos rfl, hs1 (by omega)]
      omega
    · rw [hcn3 t e]; exact r9 t h11 h18
  · rw [hcn3 15 (Ne.symm hs.2.2.2.2.1)] at h15
    rw [hold 15 0 h15]
    exact r10 h15
  · rcases hcn t j hj with hj | ⟨rfl, rfl⟩
    · rw [hold t j hj]; exact r11 t j hj h8
    · rw [hnew]; exact fun q => Nat.lt_irrefl _ (r12 _ q).1
/-- a new object -/
theorem wx_new {s index : Nat} {C : String} {T : u_T} {N : Nat} {ty : Nat → FieldType} (hC : ClsOk s C T N ty) (hcl : Cond.classLink (mO M) index C ∈ lw_tbl) (hin : Cond.instantiable C N ∈ lw_tbl) (hini : Cond.initialized C ∈ lw_tbl) (hd : decode (mC M) pc = .ok (.new index, 3))
    (kk : WP g M d uc us (pc + 3) L (.inr (s, some (xCN h s)) :: st) (sNO h s) Φ) : WP g M d (uc + 1) (us + N) pc L st h Φ := by
  intro hg p e R s0 m args below meth c H locs cells slots ls ad ad0 cn0 hE hd9 hdl hc hs9 hr hx hR hB hS hl hwL hwS
  obtain ⟨c1, c2, c3, c4, c5, c6, c7⟩ := hC
  have hW := hE.2.2.2.2.2.2.1
  have hK := cy_K hg hW
  have hKn := hK.1 s _ c1
  obtain ⟨hs10, hs8⟩ := cy_kd1 c6
  have hs0 : s ≠ 0 := fun e => by rw [e] at c6; cases c6
  refine W.newcK hE.1 hE.2.1 hE.2.2.2.2.1 (cy_wd hg hW hcl (by rfl)) (cy_wd hg hW hin (by rfl)) (cy_wd hg hW hini (by rfl)) rfl hd (by omega) (by omega) hKn.2.1 rfl fun H1 kC hkC e1 z1 o1 => ?_
  have hts : ∀ w ∈ u_ws C T N, w.before args s0 = true := cy_words hg hW c2
  have hb := u_born ty hts (fun w hw => hw) hKn hkC e1 c3
  obtain ⟨hR1, hX1⟩ := hR.new (s := s) (h1 := sNO h s) (H1 := H1) (by omega) (by omega) (fun k j hj => if_neg (by rintro ⟨rfl, rfl⟩; exact absurd hj (Nat.lt_irrefl _))) (fun k j hj => if_neg (by rintro ⟨rfl, rfl⟩; exact absurd hj (Nat.lt_irrefl _))) (fun k _ _ hk => if_pos ⟨hk, rfl⟩) (fun _ _ _ => rfl) rfl rfl rfl rfl rfl
    (by
      unfold cy_en
      rw [c6]
      refine ⟨_, c1, hb.to fun k hk => ?_⟩
      have hkF : k < cy_nF s := by rw [← c5]; exact hk
      have e99 : (100 * s + k) / 100 = s := by have := cy_nF_le s; omega
      show defaultValue (ty k) = vp_V (cy_fs _ (sNO h s) s (xCN h s)) k
      unfold vp_V
      rw [List.getD_eq_getElem?_getD, cy_fs_at _ _ _ _ _ hkF]
      show _ = cy_fv _ (sNO h s) s k (xCN h s)
      rcases c7 k hk with ⟨t1, t2⟩ | ⟨t, t2, -, -, t1, -⟩
      · rw [cy_fv_int t2, t1]
        show Value.int 0 = .int (if (100 * s + k) / 100 = s ∧ xCN h s = xCN h s then 0 else _)
        rw [if_pos ⟨e99, rfl⟩]
      · rw [cy_fv_ref t2, t1]
        show Value.null = va_rf (Option.map _ (if (100 * s + k) / 100 = s ∧ xCN h s = xCN h s then none else _))
        rw [if_pos ⟨e99, rfl⟩]
        rfl) hs8 o1 z1
  have hst : ((st.map (cy_cv ad))) = st.map (cy_cv (cy_ad ad s (xCN h s) H.size)) := List.map_congr_left fun v hv => (cy_cv_ext hX1 (hwS v hv)).symm
  have hLm : (L.map (fun q => (q.1, cy_cv ad q.2))) = L.map (fun q => (q.1, cy_cv (cy_ad ad s (xCN h s) H.size) q.2)) := List.map_congr_left fun q hq => by rw [cy_cv_ext hX1 (hwL q hq)]
  have hnewad : cy_ad ad s (xCN h s) H.size s (xCN h s) = H.size := if_pos ⟨rfl, rfl⟩
  have K := kk hg p e R s0 m args below meth c H1 locs (cells + 1) (slots + N) ls (cy_ad ad s (xCN h s) H.size) ad0 cn0 hE hd9 hdl (by omega) (by omega) hr (hx.trans hX1) hR1 hB
    ⟨Nat.le_trans hS.1 (by omega), fun q h1 h2 => (o1 q (Nat.lt_of_lt_of_le h1 hS.1)).trans (hS.2.1 q h1 h2), hS.2.2⟩ (by rw [← hLm]; exact hl) (fun q hq => cy_wf_ext hX1 (hwL q hq))
    (cy_push ⟨by omega, by omega, fun i e => by cases e; show xCN h s < up1 (xCN h) s (xCN h s + 1) s; unfold up1; rw [if_pos rfl]; omega⟩ (fun v hv => cy_wf_ext hX1 (hwS v hv)))
  simp only [List.map_cons, cy_cv, Option.map_some, hnewad, va_rf] at K
  rw [hst]
  exact K
theorem cy_kd_ne {s : Nat} (h : cy_kd s = 2 ∨ cy_kd s = 3 ∨ cy_kd s = 4 ∨ cy_kd s = 5) : s ≠ 13 ∧ s ≠ 14 ∧ s ≠ 11 ∧ s ≠ 12 ∧ s ≠ 15 ∧ s ≠ 16 ∧ 11 ≤ s ∧ cy_kd s ≠ 8 := by
  have h8 : cy_kd s ≠ 8 := by rcases h with h | h | h | h <;> (rw [h]; decide)
  have hne : ∀ t, (cy_kd t ≠ 2 ∧ cy_kd t ≠ 3 ∧ cy_kd t ≠ 4 ∧ cy_kd t ≠ 5) → s ≠ t := by
    rintro t ⟨h2, h3, h4, h5⟩ rfl
    rcases h with h | h | h | h <;> contradiction
  refine ⟨hne 13 (by decide), hne 14 (by decide), hne 11 (by decide), hne 12 (by decide), hne 15 (by decide), hne 16 (by decide), ?_, h8⟩
  rcases Nat.lt_or_ge s 11 with h11 | h11
  · have h01 : cy_kd s = 0 ∨ cy_kd s = 1 := by
      unfold cy_kd
      by_cases h0 : s = 0
      · exact Or.inl (if_pos h0)
      · exact Or.inr (by rw [if_neg h0, if_pos (by omega)])
    rcases h01 with e | e <;> rw [e] at h <;> simp at h
  · exact h11
/-- a new row -/
theorem wx_newarr {s n k : Nat} {x : Int32} {at9 : ArrayType} {a0 : vp_A} (hkd : cy_kd s = 2 ∨ cy_kd s = 3 ∨ cy_kd s = 4 ∨ cy_kd s = 5) (hs1 : s = 17 ∨ s = 18 → xCN h s = 0) (hx0 : ¬ x < 0) (hxn : x.toNatClampNeg = n) (hsm : n ≤ 2000) (hw : Cond.arrayClass (newarray.typeOf at9) ∈ lw_tbl)
    (hk : ∀ g : GT, (cy_tys g)[k]? = some (cy_cA g k, newarray.typeOf at9)) (hRA : ∀ (s : State) (cA : ClassId), va_RA s cA (newarray.typeOf at9) → s.vm.findClass ("[" ++ (newarray.typeOf at9).toString) = some cA)
    (hen : ∀ ad : Nat → Nat → Nat, cy_en g ad (sNA h s) s (xCN h s) = .inl (cy_cA g k, a0)) (ha : ∀ cA : ClassId, vp_cell cA a0 = arrV cA n (fun _ => defaultValue (newarray.typeOf at9))) (hd : decode (mC M) pc = .ok (.newarray at9, 2))
    (kk : WP g M d uc us (pc + 2) L (.inr (s, some (xCN h s)) :: st) (sNA h s) Φ) : WP g M d (uc + 1) (us + n) pc L (.inl (.int x) :: st) h Φ := by
  intro hg p e R s0 m args below meth c H locs cells slots ls ad ad0 cn0 hE hd9 hdl hc hs9 hr hx hR hB hS hl hwL hwS
  have hW := hE.2.2.2.2.2.2.1
  have hK := cy_K hg hW
  obtain ⟨n1, n2, n3, n4, n5, n6, n7, n8⟩ := cy_kd_ne hkd
  have hcb : componentBytes (newarray.typeOf at9) ≤ 8 := by cases at9 <;> decide
  refine va_newaK hE.1 hE.2.1 (cy_wd hg hW hw (by rfl)) rfl hd rfl hx0 hxn (Nat.le_trans (Nat.mul_le_mul hsm hcb) (by decide)) (by omega) (by omega) rfl fun H1 cA e1 z1 o1 hAr hNm => ?_
  have hcA : cA = cy_cA g k := by
    have h1 := hRA s0 _ (hK.2 k _ (hk g)).2
    exact Option.some.inj (hNm.symm.trans h1)
  subst hcA
  have hFI : ∀ k j, j < xCN h (k / 100) → xFI (sNA h s) k j = xFI h k j := fun _ _ _ => rfl
  obtain ⟨hR1, hX1⟩ := hR.new (s := s) (h1 := sNA h s) (H1 := H1) ⟨n1, n2, n3, n4, n5, n6⟩ hs1 (fun _ _ _ => rfl) (fun _ _ _ => rfl) (fun k t ht hk => absurd (cy_ft_lt ht) (by omega)) (fun t j hj => by funext z; exact if_neg (by rintro ⟨rfl, rfl⟩; exact absurd hj (Nat.lt_irrefl _))) rfl rfl rfl rfl rfl
    (by
      rw [hen]
      show H1[H.size]? = some (vp_cell _ _)
      rw [ha]
      exact e1) n8 o1 z1
  have hst : ((st.map (cy_cv ad))) = st.map (cy_cv (cy_ad ad s (xCN h s) H.size)) := List.map_congr_left fun v hv => (cy_cv_ext hX1 (cy_pop hwS v hv)).symm
  · have hLm : (L.map (fun q => (q.1, cy_cv ad q.2))) = L.map (fun q => (q.1, cy_cv (cy_ad ad s (xCN h s) H.size) q.2)) := List.map_congr_left fun q hq => by rw [cy_cv_ext hX1 (hwL q hq)]
    have hnewad : cy_ad ad s (xCN h s) H.size s (xCN h s) = H.size := if_pos ⟨rfl, rfl⟩
    have K := kk hg p e R s0 m args below meth c H1 locs (cells + 1) (slots + n) ls (cy_ad ad s (xCN h s) H.size) ad0 cn0 hE hd9 hdl (by omega) (by omega) hr (hx.trans hX1) hR1 hB
      ⟨Nat.le_trans hS.1 (by omega), fun q h1 h2 => (o1 q (Nat.lt_of_lt_of_le h1 hS.1)).trans (hS.2.1 q h1 h2), hS.2.2⟩ (by rw [← hLm]; exact hl) (fun q hq => cy_wf_ext hX1 (hwL q hq))
      (cy_push ⟨n1, n2, fun i e => by cases e; show xCN h s < up1 (xCN h) s (xCN h s + 1) s; unfold up1; rw [if_pos rfl]; omega⟩ (fun v hv => cy_wf_ext hX1 (cy_pop hwS v hv)))
    simp only [List.map_cons, cy_cv, Option.map_some, hnewad, va_rf] at K
    rw [hst]
    exact K
end ALLOC
