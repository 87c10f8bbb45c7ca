/-! ===== own: the JDK's add(e): one element more ===== -/
section JDK4
variable {g : GT} {M : MT} {d uc us pc : Nat} {L : List (Nat × AV)} {st : List AV} {h : Hp} {Φ : Rs → Hp → Prop}
theorem cy_ft_ne {k t : Nat} (hk : cy_ft k = some t) : t ≠ 13 ∧ t ≠ 14 := by
  have key : ∀ row ∈ cy_tg, ∀ o ∈ row, o ≠ some 13 ∧ o ≠ some 14 := by decide
  have h1 : ∀ (row : List (Option Nat)) (i : Nat), (∀ o ∈ row, o ≠ some 13 ∧ o ≠ some 14) → row.getD i none = some t → t ≠ 13 ∧ t ≠ 14 := by
    intro row i hrow hi
    rw [List.getD_eq_getElem?_getD] at hi
    cases hq : row[i]? with
    | none => rw [hq] at hi; cases hi
    | some o =>
      rw [hq] at hi
      have hm := hrow o (List.mem_of_getElem? hq)
      have ho : o = some t := hi
      rw [ho] at hm
      exact ⟨fun e => hm.1 (by rw [e]), fun e => hm.2 (by rw [e])⟩
  unfold cy_ft at hk
  refine h1 _ _ ?_ hk
  intro o ho
  cases hq : cy_tg[k / 100]? with
  | none =>
    rw [List.getD_eq_getElem?_getD, hq] at ho
    cases ho
  | some row =>
    rw [List.getD_eq_getElem?_getD, hq] at ho
    exact key row (List.mem_of_getElem? hq) o ho
theorem cy_es_v {s : Nat} : cy_es s = 8 ∨ cy_es s = 1 := by
  unfold cy_es
  by_cases q : s = 13
  · rw [if_pos q]; exact Or.inl rfl
  · rw [if_neg q]; exact Or.inr rfl
theorem Rel.add {ad : Nat → Nat → Nat} {H H2 : Heap} {s e r2 cap : Nat} (hR : Rel g ad h H) (hs : s = 11 ∨ s = 12) (hi0 : 0 < xCN h s) (he : e < xCN h (cy_es (s + 2))) (hcap : cy_cap h s = cap) (hc1 : xLS h s + 1 ≤ cap) (hc2 : 2 ≤ cap) (hc3 : cap ≤ 1000) (hz : H.size ≤ H2.size) (hf : ∀ z, z < H.size → z ≠ ad s 0 → (0 < xCN h (s + 2) → z ≠ ad (s + 2) 0) → H2[z]? = H[z]?) (hr2 : (0 < xCN h (s + 2) ∧ r2 = ad (s + 2) 0) ∨ H.size ≤ r2)
    (hl : JL g (ad s 0) (xFI h (100 * s) 0 + 1) r2 (xLS h s + 1) H2) (hrow : JR g r2 cap (fun j => if j < xLS h s + 1 then some (ad (cy_es (s + 2)) (if j = xLS h s then e else xLE h s j)) else none) H2) :
    Rel g (cy_ad ad (s + 2) 0 r2) (H_add h s e) H2 ∧ Ext ad (xCN h) (cy_ad ad (s + 2) 0 r2) (xCN (H_add h s e)) := by
  have hRR := hR
  obtain ⟨r1, rinj, r3, r4, r5, r6, r7, r8, r9, r10, r11, r12⟩ := hR
  have hCN : ∀ t, xCN (H_add h s e) t = if t = s + 2 then 1 else xCN h t := fun _ => rfl
  have hLS : ∀ t, xLS (H_add h s e) t = if t = s + 2 then cap else if t = s then xLS h s + 1 else xLS h t := fun t => by rw [← hcap]; rfl
  have hLE : ∀ t j, xLE (H_add h s e) t j = if t = s ∧ j = xLS h s then e else xLE h t j := fun _ _ => rfl
  have hFI : ∀ k j, xFI (H_add h s e) k j = if k = 100 * s ∧ j = 0 then xFI h (100 * s) 0 + 1 else xFI h k j := fun _ _ => rfl
  have hLSo : ∀ t, t ≠ s → t ≠ s + 2 → xLS (H_add h s e) t = xLS h t := fun t h1 h2 => by rw [hLS, if_neg h2, if_neg h1]
  have hCNo : ∀ t, t ≠ s + 2 → xCN (H_add h s e) t = xCN h t := fun t h2 => by rw [hCN, if_neg h2]
  have hFIo : ∀ k j, k ≠ 100 * s → xFI (H_add h s e) k j = xFI h k j := fun k j h2 => by rw [hFI, if_neg (fun w => h2 w.1)]
  have hLEo : ∀ t j, t ≠ s → xLE (H_add h s e) t j = xLE h t j := fun t j h2 => by rw [hLE, if_neg (fun w => h2 w.1)]
  have hnew : cy_ad ad (s + 2) 0 r2 (s + 2) 0 = r2 := if_pos ⟨rfl, rfl⟩
  have hne : ∀ t j, t ≠ s + 2 → cy_ad ad (s + 2) 0 r2 t j = ad t j := fun t j ht => if_neg (fun q => ht q.1)
  have hlt := fun t j (hj : j < xCN h t) => cy_ok_lt hRR hj
  have hes2 : ∀ t, cy_es t ≠ s + 2 := fun t => by rcases cy_es_v (s := t) with q | q <;> omega
  have hes1 : ∀ t, cy_es t ≠ s := fun t => by rcases cy_es_v (s := t) with q | q <;> omega
  have hkds : cy_kd s = 6 := by rcases hs with rfl | rfl <;> rfl
  have hkds2 : cy_kd (s + 2) = 7 := by rcases hs with rfl | rfl <;> rfl
  have hB2 : cy_B g ≤ r2 := by
    rcases hr2 with ⟨q1, q2⟩ | q
    · rw [q2]; exact r3 (s + 2) 0 q1 (by rw [hkds2]; decide)
    · omega
  have hBs : cy_B g ≤ ad s 0 := r3 s 0 hi0 (by rw [hkds]; decide)
  have hnr : ∀ t j, j < xCN h t → t ≠ s + 2 → ad t j ≠ r2 := by
    intro t j hj ht q
    rcases hr2 with ⟨q1, q2⟩ | q9
    · rw [q2] at q
      exact ht (rinj t j (s + 2) 0 hj q1 q).1
    · have := hlt t j hj
      omega
  have hln : ∀ t, t ≠ s → t ≠ s + 2 → cy_ln (H_add h s e) t = cy_ln h t := by
    intro t h1 h2
    unfold cy_ln
    rw [hLSo 16 (by omega) (by omega)]
  have hkeep : ∀ t i, i < xCN h t → t ≠ s → t ≠ s + 2 → H2[ad t i]? = H[ad t i]? := by
    intro t i hi h1 h2
    refine hf _ (hlt t i hi) (fun q => h1 (rinj t i s 0 hi hi0 q).1) (fun q1 q => h2 (rinj t i (s + 2) 0 hi q1 q).1)
  have hfs : ∀ t i, t ≤ 10 → cy_fs (cy_ad ad (s + 2) 0 r2) (H_add h s e) t i = cy_fs ad h t i := by
    intro t i ht
    unfold cy_fs
    refine List.map_congr_left fun k hk => ?_
    have hk2 : k < cy_nF t := List.mem_range.mp hk
    have h44 := cy_nF_le t
    unfold cy_fv
    rw [hFIo _ _ (by omega)]
    split
    · rfl
    · rename_i t' ht'
      have hn := cy_ft_ne ht'
      have hfr : xFR (H_add h s e) (100 * t + k) i = xFR h (100 * t + k) i := rfl
      rw [hfr]
      cases xFR h (100 * t + k) i with
      | none => rfl
      | some r => exact congrArg Value.ref (hne t' r (by omega))
  have hen : ∀ t i, i < xCN h t → t ≠ s → t ≠ s + 2 → cy_en g (cy_ad ad (s + 2) 0 r2) (H_add h s e) t i = cy_en g ad h t i := by
    intro t i hi h1 h2
    have hai : xAI (H_add h s e) t i = xAI h t i := rfl
    have hal : xAL (H_add h s e) = xAL h := rfl
    have had : xAD (H_add h s e) = xAD h := rfl
    unfold cy_en
    split
    · rename_i hkd
      rw [hfs t i (by
        unfold cy_kd at hkd
        repeat' split at hkd
        all_goals first | omega | (cases hkd))]
    · rw [hln t h1 h2, hai]
    · rw [hal]
    · rw [had]
    · rename_i hkd
      have ht := cy_kd6 hkd
      rw [hFIo _ _ (by omega), hCNo (t + 2) (by omega), hLSo t h1 h2, hne (t + 2) 0 (by omega)]
    · rename_i hkd
      have ht : t = 13 ∨ t = 14 := by
        unfold cy_kd at hkd
        repeat' split at hkd
        all_goals first | omega | (cases hkd)
      have e9 : (fun j => if j < xLS (H_add h s e) (t - 2) then some (cy_ad ad (s + 2) 0 r2 (cy_es t) (xLE (H_add h s e) (t - 2) j)) else none) = (fun j => if j < xLS h (t - 2) then some (ad (cy_es t) (xLE h (t - 2) j)) else none) := by
        funext j
        rw [hLSo (t - 2) (by omega) (by omega), hLEo _ _ (by omega), hne _ _ (hes2 t)]
      rw [hLSo t h1 h2, e9]
    · rw [hln t h1 h2, hai]
  refine ⟨⟨fun t i hi => ?_, fun t i u j hi hj q => ?_, fun t j hj h8 => ?_, fun k t i j hk hi hj => ?_, fun t j ht hj => ?_, fun t ht hc => ?_, by omega, fun q hq => ?_, fun t h11 h18 => ?_, fun h15 => ?_, fun t j hj h8 => ?_, fun q hq => ⟨Nat.lt_of_lt_of_le (r12 q hq).1 hz, by rw [hf q (r12 q hq).1 (fun w => r11 s 0 hi0 (by rw [hkds]; decide) (w ▸ hq)) (fun w9 w => r11 (s + 2) 0 w9 (by rw [hkds2]; decide) (w ▸ hq))]; exact (r12 q hq).2⟩⟩, fun t j hj => ⟨?_, fun n1 n2 => hne t j (by rcases hs with rfl | rfl; exact n1; exact n2)⟩⟩
  · by_cases h2 : t = s + 2
    · subst h2
      rw [hCN, if_pos rfl] at hi
      have hi9 : i = 0 := by omega
      subst hi9
      unfold cy_ok
      rw [if_neg (by rw [hkds2]; decide), hnew]
      unfold cy_en
      rw [hkds2]
      show va_at (cy_D g) vwCl (r2, .inl (cy_cA g 4, xLS (H_add h s e) (s + 2), .inr (.inr (.inr (.inr (fun j => if j < xLS (H_add h s e) (s + 2 - 2) then some (cy_ad ad (s + 2) 0 r2 (cy_es (s + 2)) (xLE (H_add h s e) (s + 2 - 2) j)) else none)))))) H2
      have e9 : (fun j => if j < xLS (H_add h s e) (s + 2 - 2) then some (cy_ad ad (s + 2) 0 r2 (cy_es (s + 2)) (xLE (H_add h s e) (s + 2 - 2) j)) else none) = (fun j => if j < xLS h s + 1 then some (ad (cy_es (s + 2)) (if j = xLS h s then e else xLE h s j)) else none) := by
        funext j
        have e8 : xLS (H_add h s e) s = xLS h s + 1 := by rw [hLS, if_neg (by omega), if_pos rfl]
        have e6 : xLE (H_add h s e) s j = if j = xLS h s then e else xLE h s j := by
          rw [hLE]
          by_cases q : j = xLS h s
          · rw [if_pos (⟨rfl, q⟩ : s = s ∧ j = xLS h s), if_pos q]
          · rw [if_neg (fun w : s = s ∧ j = xLS h s => q w.2), if_neg q]
        rw [show s + 2 - 2 = s by omega, e8, e6, hne _ _ (hes2 (s + 2))]
      have e7 : xLS (H_add h s e) (s + 2) = cap := by rw [hLS, if_pos rfl]
      rw [e7, e9]
      exact hrow
    · rw [hCN, if_neg h2] at hi
      by_cases h1 : t = s
      · subst h1
        have h91 := r9 t (by omega) (by omega)
        have hi9 : i = 0 := by omega
        subst hi9
        unfold cy_ok
        rw [if_neg (by rw [hkds]; decide), hne _ _ h2]
        unfold cy_en
        rw [hkds]
        show va_at (cy_D g) vwCl (ad t 0, .inr (0, [.int (xFI (H_add h t e) (100 * t) 0), .ref (if xCN (H_add h t e) (t + 2) = 0 then cy_ea g else cy_ad ad (t + 2) 0 r2 (t + 2) 0), .int (nI (xLS (H_add h t e) t))])) H2
        have e1 : xFI (H_add h t e) (100 * t) 0 = xFI h (100 * t) 0 + 1 := by rw [hFI, if_pos ⟨rfl, rfl⟩]
        have e2 : xCN (H_add h t e) (t + 2) = 1 := by rw [hCN, if_pos rfl]
        have e3 : xLS (H_add h t e) t = xLS h t + 1 := by rw [hLS, if_neg h2, if_pos rfl]
        rw [e1, e2, e3, if_neg (by decide), hnew]
        exact hl
      · have h0 := r1 t i hi
        unfold cy_ok at h0 ⊢
        by_cases h8 : cy_kd t = 8
        · rw [if_pos h8] at h0 ⊢
          rw [hln t h1 h2, hne t i h2]
          exact h0.kept (hkeep t i hi h1 h2)
        · rw [if_neg h8] at h0 ⊢
          rw [hen t i hi h1 h2, hne t i h2]
          exact h0.kept (hkeep t i hi h1 h2)
  · rw [hCN] at hi hj
    by_cases ht : t = s + 2 <;> by_cases hu : u = s + 2
    · rw [if_pos ht] at hi
      rw [if_pos hu] at hj
      exact ⟨ht.trans hu.symm, by omega⟩
    · rw [if_pos ht] at hi
      rw [if_neg hu] at hj
      have hi9 : i = 0 := by omega
      rw [ht, hi9, hnew, hne u j hu] at q
      exact absurd q.symm (hnr u j hj hu)
    · rw [if_neg ht] at hi
      rw [if_pos hu] at hj
      have hj9 : j = 0 := by omega
      rw [hu, hj9, hnew, hne t i ht] at q
      exact absurd q (hnr t i hi ht)
    · rw [if_neg ht] at hi
      rw [if_neg hu] at hj
      rw [hne t i ht, hne u j hu] at q
      exact rinj t i u j hi hj q
  · rw [hCN] at hj
    by_cases ht : t = s + 2
    · rw [if_pos ht] at hj
      have hj9 : j = 0 := by omega
      rw [ht, hj9, hnew]
      exact hB2
    · rw [if_neg ht] at hj
      rw [hne t j ht]
      exact r3 t j hj h8
  · have hlt9 := cy_ft_lt hk
    have hn := cy_ft_ne hk
    rw [hCNo _ (by omega)] at hi
    rw [hCNo _ (by omega)]
    exact r4 k t i j hk hi hj
  · rw [hCNo _ (hes2 _), hLE]
    by_cases q : t = s
    · subst q
      rw [hLS, if_neg (by omega), if_pos rfl] at hj
      by_cases q2 : j = xLS h t
      · rw [if_pos ⟨rfl, q2⟩]; exact he
      · rw [if_neg (fun w => q2 w.2)]
        exact r5 t j ht (by omega)
    · rw [hLSo t q (by omega)] at hj
      rw [if_neg (fun w => q w.1)]
      exact r5 t j ht hj
  · rw [hCNo _ (by omega)] at hc
    by_cases q : t = s
    · subst q
      refine Or.inr ⟨by rw [hCN, if_pos rfl], ?_, ?_, ?_⟩
      · have e1 : xLS (H_add h t e) t = xLS h t + 1 := by rw [hLS, if_neg (by omega), if_pos rfl]
        rw [e1, hLS, if_pos rfl]; exact hc1
      · rw [hLS, if_pos rfl]; exact hc2
      · rw [hLS, if_pos rfl]; exact hc3
    · rw [hLSo t q (by omega), hCNo (t + 2) (by omega), hLSo (t + 2) (by omega) (by omega)]
      exact r6 t ht hc
  · rw [hf q (by omega) (by omega) (fun w => by have := r3 (s + 2) 0 w (by rw [hkds2]; decide); omega)]
    exact r8 q hq
  · rw [hCN]
    by_cases q : t = s + 2
    · rw [if_pos q]; exact Nat.le_refl 1
    · rw [if_neg q]; exact r9 t h11 h18
  · rw [hCNo 15 (by omega)] at h15
    rw [hne 15 0 (by omega)]
    exact r10 h15
  · rw [hCN] at hj
    by_cases ht : t = s + 2
    · rw [if_pos ht] at hj
      have hj9 : j = 0 := by omega
      rw [ht, hj9, hnew]
      rcases hr2 with ⟨q1, q2⟩ | q9
      · rw [q2]; exact r11 (s + 2) 0 q1 (by rw [hkds2]; decide)
      · exact fun q => by have := (r12 _ q).1; omega
    · rw [if_neg ht] at hj
      rw [hne t j ht]
      exact r11 t j hj h8
  · rw [hCN]
    by_cases q : t = s + 2
    · rw [if_pos q]
      rw [q] at hj
      have := r9 (s + 2) (by omega) (by omega)
      omega
    · rw [if_neg q]; exact hj
set_option maxRecDepth 20000 in
theorem jd_add {s e : Nat} (hd : 12 ≤ d) (hs : cy_kd s = 6) (hn : xLS h s < 30) : Ctr g M_Jx4a65c_add_9ea2d d 1 45 [.inr (s, some 0), .inr (cy_es (s + 2), some e)] h (cy_det (.inl (some (.inl (.int 1)))) (H_add h s e)) := by
  have hs' := cy_kd6 hs
  refine cy_body rfl rfl (by decide) (Nat.le_of_ble_eq_true rfl) ?_
  intro hg p e9 R s0 m args below meth c H locs cells slots ls ad ad0 cn0 hE hd9 hdl hc hs9 hr hx9 hR hB hS hl hwL hwS
  have hL : mL M_Jx4a65c_add_9ea2d = 0 := rfl
  simp only [cy_Fi, hL, if_true]
  have hJ : JE g M_Jx4a65c_add_9ea2d p s0 m meth c := ⟨hE.1, hE.2.1, hE.2.2.1, hE.2.2.2.1, hE.2.2.2.2.1, hE.2.2.2.2.2.1, hE.2.2.2.2.2.2.1⟩
  have hi0 : 0 < xCN h s := (hwL (0, .inr (s, some 0)) List.mem_cons_self).2.2 0 rfl
  have hei : e < xCN h (cy_es (s + 2)) := (hwL (1, .inr (cy_es (s + 2), some e)) (List.mem_cons_of_mem _ List.mem_cons_self)).2.2 e rfl
  have hl : lv_has ls 2 [(0, .ref (ad s 0)), (1, .ref (ad (cy_es (s + 2)) e))] := hl
  have hx := hE.1
  have hb : c.code = cJx4a65c_add_9ea2d := hE.2.1
  have hW := hE.2.2.2.2.2.2.1
  have hlocks : meth.locks = false := hE.2.2.2.2.2.1
  have hes : cy_kd (cy_es (s + 2)) = 1 := by rcases cy_es_v (s := s + 2) with q | q <;> rw [q] <;> rfl
  have hes8 : cy_es (s + 2) = 1 ∨ cy_es (s + 2) = 8 := by rcases cy_es_v (s := s + 2) with q | q; exact Or.inr q; exact Or.inl q
  have hobj : ∀ i, i < xCN h (cy_es (s + 2)) → JO g (ad (cy_es (s + 2)) i) H := fun i hi => ⟨_, _, hes8, cy_obj hR hi hes⟩
  have hBs : cy_B g ≤ ad s 0 := hR.2.2.1 s 0 hi0 (by rw [hs]; decide)
  have hBz : cy_B g ≤ H.size := hR.2.2.2.2.2.2.1
  have hya : ∀ i, i < xCN h (cy_es (s + 2)) → ad (cy_es (s + 2)) i ≠ ad s 0 := fun i hi q => by
    have := (hR.2.1 _ i s 0 hi hi0 q).1
    omega
  obtain ⟨r, hrd⟩ : ∃ r, r = (if xCN h (s + 2) = 0 then cy_ea g else ad (s + 2) 0) := ⟨_, rfl⟩
  have hlist : JL g (ad s 0) (xFI h (100 * s) 0) r (xLS h s) H := by rw [hrd]; exact cy_lst hR hi0 hs
  have halt : ad s 0 < H.size := cy_ok_lt hR hi0
  have hsm : ∀ x, s0.fieldFound? (TJx4a65c 0).1 (TJx4a65c 0).2.1 (TJx4a65c 0).2.2.1 = some x → s0.fieldFound? RJx4a65c (TJx4a65c 0).2.1 (TJx4a65c 0).2.2.1 = some x := fun x q => u_same (args := args) (cy_wd hg hW (by decide +kernel) (by rfl)) x q
  refine lv_aload_n hx hb dJx4a65c_add_9ea2d_0 rfl (lv_at hl 0 rfl) ?_
  refine lv_dup hx hb dJx4a65c_add_9ea2d_1 rfl ?_
  refine ja_get (M := M_Jx4a65c_add_9ea2d) (k := 0) (ref := RJx4a65c) (v := .int (xFI h (100 * s) 0)) hg hJ (by decide) (by decide +kernel) hsm hlist rfl dJx4a65c_add_9ea2d_2 ?_
  refine lv_iconst (v := 1) hx hb dJx4a65c_add_9ea2d_5 (by decide) ?_
  refine lv_iadd hx hb dJx4a65c_add_9ea2d_6 ?_
  refine ja_put (M := M_Jx4a65c_add_9ea2d) (k := 0) (ref := RJx4a65c) hg hJ (by decide) (by decide +kernel) hsm hlist rfl rfl (Nat.le_of_ble_eq_true rfl) dJx4a65c_add_9ea2d_7 (fun H1 a1 o1 z1 j1 => ?_)
  have a1 : JL g (ad s 0) (xFI h (100 * s) 0 + 1) r (xLS h s) H1 := a1
  refine lv_aload_n hx hb dJx4a65c_add_9ea2d_10 rfl (lv_at hl 0 rfl) ?_
  refine lv_aload_n hx hb dJx4a65c_add_9ea2d_11 rfl (lv_at hl 1 rfl) ?_
  refine lv_aload_n hx hb dJx4a65c_add_9ea2d_12 rfl (lv_at hl 0 rfl) ?_
  refine ja_get (M := M_Jx4a65c_add_9ea2d) (k := 1) (v := .ref r) hg hJ (by decide) jw_9 (fun _ h => h) a1 rfl dJx4a65c_add_9ea2d_13 ?_
  refine lv_aload_n hx hb dJx4a65c_add_9ea2d_16 rfl (lv_at hl 0 rfl) ?_
  refine ja_get (M := M_Jx4a65c_add_9ea2d) (k := 2) (v := .int (nI (xLS h s))) hg hJ (by decide) jw_48 (fun _ h => h) a1 rfl dJx4a65c_add_9ea2d_17 ?_
  have hold1 : ∀ q, q < cy_B g → H1[q]? = (cy_s g).heap[q]? := fun q hq => by rw [o1 q (by omega)]; exact hR.2.2.2.2.2.2.2.1 q hq
  have hobj1 : ∀ i, i < xCN h (cy_es (s + 2)) → JO g (ad (cy_es (s + 2)) i) H1 := fun i hi => by
    obtain ⟨ci, fs, q1, q2⟩ := hobj i hi
    exact ⟨ci, fs, q1, va_at.kept q2 (o1 _ (hya i hi))⟩
  have heaB : cy_ea g < cy_B g := by
    obtain ⟨cell, -, -, -, -, -, -, h7⟩ := hg.2.2.2.2.2.2.2.2.2.2
    exact Nat.not_le.mp h7
  have hr0 : xCN h (s + 2) = 0 → r = cy_ea g := fun q => by rw [hrd, if_pos q]
  have hr1 : xCN h (s + 2) ≠ 0 → r = ad (s + 2) 0 := fun q => by rw [hrd, if_neg q]
  have har : ad s 0 ≠ r := by
    by_cases q : xCN h (s + 2) = 0
    · rw [hr0 q]; omega
    · rw [hr1 q]
      intro w
      have := (hR.2.1 s 0 (s + 2) 0 hi0 (by omega) w).1
      omega
  have key : ∀ (cap r2 : Nat) (f1 : Nat → Option Nat), (JG g r (xLS h s) cap f1 H1 ∧ r2 = H1.size) ∨ (JR g r cap f1 H1 ∧ r2 = r ∧ cy_B g ≤ r ∧ xLS h s < cap ∧ cap ≤ 1000) → cy_cap h s = cap → xLS h s + 1 ≤ cap → 2 ≤ cap → cap ≤ 1000 → ((0 < xCN h (s + 2) ∧ r2 = ad (s + 2) 0) ∨ H.size ≤ r2) → va_up f1 (xLS h s) (some (ad (cy_es (s + 2)) e)) = (fun j => if j < xLS h s + 1 then some (ad (cy_es (s + 2)) (if j = xLS h s then e else xLE h s j)) else none) →
      W p (cy_l g) e9 R s0 m args below meth c H1 (locs ++ [⟨ad s 0, j1⟩]) cells slots (vx_MQ below (cy_Qc g (cy_det (.inl (some (.inl (.int 1)))) (H_add h s e)) ad0 cn0) (cy_XC g (cy_det (.inl (some (.inl (.int 1)))) (H_add h s e)) ad0 cn0) args s0 R.cells R.slots (cy_A g)) (F0 m 20 ls [.int (nI (xLS h s)), .ref r, .ref (ad (cy_es (s + 2)) e), .ref (ad s 0)]) := by
    intro cap r2 f1 hcase hcap hc1 hc2 hc3 hr2 hfe
    refine jr_V (M := M_Jx4a65c_add_9ea2d) (M' := M_Jx4a65c_add_72be8) (d := d) (d' := d - 1) (b := ad s 0) (As := [.ref (ad (cy_es (s + 2)) e), .ref r, .int (nI (xLS h s))]) (rest := []) hg hJ (jd_add3 hg (by omega) hBs (by omega) hold1 a1 (hobj1 e hei) (hya e hei) har hcase) a1 (ok_Jx4a65c_add_72be8 M_Jx4a65c_add_9ea2d 131) (by decide +kernel) (by decide +kernel) jw_sa3 (by omega) hd9 hdl rfl hl.1 (Nat.le_of_ble_eq_true rfl) rfl dJx4a65c_add_9ea2d_20 (by omega) (by omega) (fun v H2 L2 hv hL2 => ?_)
    obtain ⟨rfl, x1, x2, x3⟩ := hv
    refine lv_iconst (v := 1) hx hb dJx4a65c_add_9ea2d_23 (by decide) ?_
    rw [hfe] at x3
    obtain ⟨hR2, hX2⟩ := Rel.add (H2 := H2) hR hs' hi0 hei hcap hc1 hc2 hc3 (by have := x1.1; omega) (fun z hz hn1 hn2 => by
      rw [x1.2 z (by omega) (fun w => by
        rcases w with w | ⟨w, w2⟩
        · exact hn1 w
        · by_cases q : xCN h (s + 2) = 0
          · rw [hr0 q] at w2; omega
          · exact hn2 (by omega) (w.trans (hr1 q)))]
      exact o1 z hn1) hr2 x2 x3
    refine W.widen (k := R.cells) (n := R.slots) (by omega) (by omega) ?_
    refine vx_ret ?_
    exact W.zret hx hb hE.2.2.2.1 rfl (fun t ht _ => ⟨by rw [ht]; have := x1.1; have := hS.1; omega, some (.inl (.int 1)), H_add h s e, cy_ad ad (s + 2) 0 r2, ⟨rfl, rfl⟩, rfl, (fun v q => by cases q; trivial), by rw [ht]; exact hR2, hx9.trans hX2⟩) (fun q hq => by
      rcases List.mem_append.mp hq with q1 | q1
      · rcases List.mem_append.mp q1 with q1 | q1
        · exact hS.2.2 q q1
        · rw [List.mem_singleton.mp q1]; exact hBs
      · exact hL2 q q1) dJx4a65c_add_9ea2d_24 hlocks
  have fin : ∀ f1 : Nat → Option Nat, (∀ j, j ≠ xLS h s → f1 j = if j < xLS h s then some (ad (cy_es (s + 2)) (xLE h s j)) else none) → va_up f1 (xLS h s) (some (ad (cy_es (s + 2)) e)) = (fun j => if j < xLS h s + 1 then some (ad (cy_es (s + 2)) (if j = xLS h s then e else xLE h s j)) else none) := by
    intro f1 hf1
    funext j
    show (if j = xLS h s then some (ad (cy_es (s + 2)) e) else f1 j) = _
    by_cases q : j = xLS h s
    · rw [if_pos q, if_pos (by omega), if_pos q]
    · rw [if_neg q, if_neg q, hf1 j q]
      by_cases q2 : j < xLS h s
      · rw [if_pos q2, if_pos (by omega)]
      · rw [if_neg q2, if_neg (by omega)]
  have h6 := hR.2.2.2.2.2.1 s hs' hi0
  by_cases q : xCN h (s + 2) = 0
  · have hn0 : xLS h s = 0 := by rcases h6 with w | w <;> omega
    exact key 10 H1.size (fun _ => none) (Or.inl ⟨Or.inl ⟨hr0 q, hn0, rfl, rfl⟩, rfl⟩) (by unfold cy_cap; rw [if_pos q]) (by omega) (by omega) (by omega) (Or.inr (by omega)) (fin _ (fun j hj => by rw [if_neg (by omega)]))
  · have h6 : xCN h (s + 2) = 1 ∧ xLS h s ≤ xLS h (s + 2) ∧ 2 ≤ xLS h (s + 2) ∧ xLS h (s + 2) ≤ 1000 := by
      rcases h6 with w | w
      · omega
      · exact w
    have hrow : JR g (ad (s + 2) 0) (xLS h (s + 2)) (fun j => if j < xLS h s then some (ad (cy_es (s + 2)) (xLE h s j)) else none) H := by
      have h1 := hR.1 (s + 2) 0 (by omega)
      unfold cy_ok at h1
      rcases hs' with rfl | rfl
      · rw [if_neg (by decide)] at h1
        exact h1
      · rw [if_neg (by decide)] at h1
        exact h1
    have hrow1 : JR g r (xLS h (s + 2)) (fun j => if j < xLS h s then some (ad (cy_es (s + 2)) (xLE h s j)) else none) H1 := by
      rw [hr1 q]
      exact va_at.kept hrow (o1 _ (by rw [← hr1 q]; exact Ne.symm har))
    have hBr : cy_B g ≤ r := by
      rw [hr1 q]
      exact hR.2.2.1 (s + 2) 0 (by omega) (by rcases hs' with rfl | rfl <;> decide)
    by_cases q2 : xLS h s < xLS h (s + 2)
    · exact key (xLS h (s + 2)) r _ (Or.inr ⟨hrow1, rfl, hBr, q2, h6.2.2.2⟩) (by unfold cy_cap; rw [if_neg q, if_pos q2]) (by omega) (by omega) (by omega) (Or.inl ⟨by omega, hr1 q⟩) (fin _ (fun j hj => rfl))
    · have e1 : xLS h (s + 2) = xLS h s := by omega
      rw [e1] at hrow1
      refine key (xLS h s + xLS h s / 2) H1.size (fun j => if j < xLS h s then (if j < xLS h s then some (ad (cy_es (s + 2)) (xLE h s j)) else none) else none) (Or.inl ⟨Or.inr ⟨_, hrow1, hBr, by omega, by omega, rfl, rfl, fun j y hj hy => ?_⟩, rfl⟩) (by unfold cy_cap; rw [if_neg q, if_neg q2, e1]) (by omega) (by omega) (by omega) (Or.inr (by omega)) (fin _ (fun j hj => by
        by_cases q3 : j < xLS h s
        · rw [if_pos q3, if_pos q3]
        · rw [if_neg q3, if_neg q3]))
      have hy : (if j < xLS h s then some (ad (cy_es (s + 2)) (xLE h s j)) else none) = some y := hy
      rw [if_pos hj] at hy
      cases hy
      exact hobj1 _ (hR.2.2.2.2.1 s j hs' hj)
end JDK4
