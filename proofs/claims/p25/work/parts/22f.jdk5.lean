/-! ===== own: a new list ===== -/
section JDK5
variable {g : GT} {p : Program} {e : Env} {R : Room} {s : State} {m : MethodId} {args : Array Value} {below : List Frame} {meth : Method} {c : Code} {H : Heap} {locs : List Loc} {cells slots : Nat} {Q : State → Prop} {M : MT}
theorem jr_I {M' : MT} {index n d d' bc bs pc b : Nat} {As rest st : List Value} {ls : Array Slot} {P : Option Value → Heap → Prop} (hg : SF g) (hE : JE g M p s m meth c) (hM : Met (cy_l g) (mY M') [cy_word M'] (jR d' bc bs) (va_Pc (.ref b :: As) (JP g H)) (jq P) bc bs (cy_A g)) (hok : CallOk M M' index n) (hR9 : mR M' = none) (hY : (mY M').name = "<init>") (hl : Cond.methodLink (mO M) index (mY M') ∈ lw_tbl) (hin : Cond.instanceMethod (mY M') ∈ lw_tbl) (hdd : d' + 1 ≤ d) (hd : d ≤ R.frames) (hdl : 64 * d ≤ R.locals) (hn : As.length = n) (hls : ls.size = mN M) (hr : (rest.map fun v => v.category).sum ≤ 8) (hst9 : st = As.reverse ++ .ref b :: rest) (hdg : decode (mC M) pc = .ok (.invokespecial index, 3)) (hc : cells + bc ≤ R.cells) (hs : slots + bs ≤ R.slots)
    (kk : ∀ (v : Option Value) (H1 : Heap) (L : List Loc), P v H1 → (∀ q ∈ L, cy_A g q.base) → W p (cy_l g) e R s m args below meth c H1 (locs ++ L) (cells + bc) (slots + bs) Q (F0 m (pc + 3) ls (v.toList ++ rest))) :
    W p (cy_l g) e R s m args below meth c H locs cells slots Q (F0 m pc ls st) := by
  subst hst9
  have hW := hE.2.2.2.2.2.2
  have hcb := cy_callB (bc := bc) (bs := bs) (args := args) hg hW hok hl hdd hd hdl
  rw [hR9] at hcb
  intro T hT X
  obtain ⟨v, st₀, t, T', L, h0, X', hL, e1, e2, ⟨r, hv, hp⟩, st9⟩ := va_runI (nL := mN M) (Ts := []) (b := b) (As := As) ⟨hE.1, hE.2.1, hE.2.2.1, hE.2.2.2.2.1, fun w hw => by cases hw⟩ hM ⟨hcb, hY, cy_wd hg hW hin (by rfl)⟩ ⟨fun a U f mk q => by obtain ⟨q1, q2, q3⟩ := q; exact ⟨q1, q2, q3⟩, fun U hU hWU => ⟨rfl, hU, State.WarmedH.trans hW hWU⟩⟩ rfl hn hls rfl (lv_room hr) hdg ⟨hc, hs⟩ T hT X
  cases hv
  obtain ⟨t2, a1, b1⟩ := kk v T'.heap L (by rw [e1]; exact hp) hL T' rfl X'
  exact ⟨t2, st9 t2 a1, b1⟩
theorem jd_initC (hg : SF g) {d : Nat} (hd : 1 ≤ d) {a0 : Nat} : Met (cy_l g) yJxa1e45_init_da8c8 [cy_word M_Jxa1e45_init_da8c8] (jR d 0 0) (va_Pc [.ref a0] (JP g H)) (jq (fun v H1 => v = none ∧ H1 = H)) 0 0 (cy_A g) := by
  refine jb (M := M_Jxa1e45_init_da8c8) rfl rfl (by decide) (Nat.le_of_ble_eq_true rfl) ?_
  intro p e s m args below meth c ls hE hz hl
  have hl : lv_has ls 1 [(0, .ref a0)] := hl
  have hx := hE.1
  have hb : c.code = cJxa1e45_init_da8c8 := hE.2.1
  have hown : s.vm.findClass RJxa1e45 = some m.cls := hE.2.2.2.2.1
  have hW := hE.2.2.2.2.2.2
  have hlocks : meth.locks = false := hE.2.2.2.2.2.1
  refine lv_aload_n hx hb dJxa1e45_init_da8c8_0 rfl (lv_at hl 0 rfl) ?_
  refine W.objInit hx hb hown (cy_wd hg hW (by decide +kernel) (by rfl)) (cy_wd hg hW (by decide +kernel) (by rfl)) (cy_wd hg hW (by decide +kernel) (by rfl)) rfl (by rw [hE.2.2.1]; exact hl.1) rfl dJxa1e45_init_da8c8_1 (show 1 ≤ d by omega) (show _ ≤ 64 * d from Nat.le_trans (Nat.le_of_ble_eq_true rfl : _ ≤ 64) (by omega)) ?_
  refine W.eq (g2 := F0 m 4 ls []) rfl ?_
  exact W.vret hx hb hE.2.2.2.1 (fun t ht _ => ⟨_, rfl, rfl, ht⟩) (fun q hq => by cases hq) dJxa1e45_init_da8c8_4 hlocks
theorem jd_initL (hg : SF g) {d : Nat} (hd : 2 ≤ d) {a0 : Nat} {v1 v2 v3 : Value} (hB : cy_B g ≤ a0) (ha : va_at (cy_D g) vwCl (a0, .inr (0, [v1, v2, v3])) H) : Met (cy_l g) yJxc12de_init_da8c8 [cy_word M_Jxc12de_init_da8c8] (jR d 0 0) (va_Pc [.ref a0] (JP g H)) (jq (fun v H1 => v = none ∧ va_at (cy_D g) vwCl (a0, .inr (0, [.int 0, v2, v3])) H1 ∧ (∀ q, q ≠ a0 → H1[q]? = H[q]?) ∧ H1.size = H.size)) 0 0 (cy_A g) := by
  refine jb (M := M_Jxc12de_init_da8c8) rfl rfl (by decide) (Nat.le_of_ble_eq_true rfl) ?_
  intro p e s m args below meth c ls hE hz hl
  have hl : lv_has ls 1 [(0, .ref a0)] := hl
  have hx := hE.1
  have hb : c.code = cJxc12de_init_da8c8 := hE.2.1
  have hlocks : meth.locks = false := hE.2.2.2.2.2.1
  refine lv_aload_n hx hb dJxc12de_init_da8c8_0 rfl (lv_at hl 0 rfl) ?_
  refine jr_I (M := M_Jxc12de_init_da8c8) (M' := M_Jxa1e45_init_da8c8) (d := d) (d' := d - 1) (b := a0) (As := []) (rest := []) hg hE (jd_initC hg (by omega)) (ok_Jxa1e45_init_da8c8 M_Jxc12de_init_da8c8 1) rfl rfl (by decide +kernel) (by decide +kernel) (by omega) (Nat.le_refl _) (Nat.le_refl _) rfl hl.1 (Nat.le_of_ble_eq_true rfl) rfl dJxc12de_init_da8c8_1 (Nat.le_of_ble_eq_true rfl) (Nat.le_of_ble_eq_true rfl) (fun v H1 L hv hL => ?_)
  obtain ⟨rfl, rfl⟩ := hv
  refine lv_aload_n hx hb dJxc12de_init_da8c8_4 rfl (lv_at hl 0 rfl) ?_
  refine lv_iconst (v := 0) hx hb dJxc12de_init_da8c8_5 (by decide) ?_
  refine ja_put (M := M_Jxc12de_init_da8c8) (k := 0) (ref := (TJx4a65c 0).1) hg hE (by decide) (by decide +kernel) (fun _ h => h) ha rfl rfl (Nat.le_of_ble_eq_true rfl) dJxc12de_init_da8c8_6 (fun H2 a2 o2 z2 j => ?_)
  exact W.vret hx hb hE.2.2.2.1 (fun t ht _ => ⟨_, rfl, rfl, by rw [ht]; exact a2, by rw [ht]; exact o2, by rw [ht]; exact z2⟩) (fun q hq => by
    rcases List.mem_append.mp hq with h | h
    · exact hL q h
    · rw [List.mem_singleton.mp h]; exact hB) dJxc12de_init_da8c8_9 hlocks
theorem jd_initA (hg : SF g) {d : Nat} (hd : 3 ≤ d) {a0 : Nat} {v1 v2 v3 : Value} (hB : cy_B g ≤ a0) (hold : ∀ q, q < cy_B g → H[q]? = (cy_s g).heap[q]?) (ha : va_at (cy_D g) vwCl (a0, .inr (0, [v1, v2, v3])) H) : Met (cy_l g) yJx4a65c_init_da8c8 [cy_word M_Jx4a65c_init_da8c8] (jR d 0 0) (va_Pc [.ref a0] (JP g H)) (jq (fun v H1 => v = none ∧ va_at (cy_D g) vwCl (a0, .inr (0, [.int 0, .ref (cy_ea g), v3])) H1 ∧ (∀ q, q ≠ a0 → H1[q]? = H[q]?) ∧ H1.size = H.size)) 0 0 (cy_A g) := by
  refine jb (M := M_Jx4a65c_init_da8c8) rfl rfl (by decide) (Nat.le_of_ble_eq_true rfl) ?_
  intro p e s m args below meth c ls hE hz hl
  have hl : lv_has ls 1 [(0, .ref a0)] := hl
  have hx := hE.1
  have hb : c.code = cJx4a65c_init_da8c8 := hE.2.1
  have hown : s.vm.findClass RJx4a65c = some m.cls := hE.2.2.2.2.1
  have hW := hE.2.2.2.2.2.2
  have hlocks : meth.locks = false := hE.2.2.2.2.2.1
  refine lv_aload_n hx hb dJx4a65c_init_da8c8_0 rfl (lv_at hl 0 rfl) ?_
  refine jr_I (M := M_Jx4a65c_init_da8c8) (M' := M_Jxc12de_init_da8c8) (d := d) (d' := d - 1) (b := a0) (As := []) (rest := []) hg hE (jd_initL hg (by omega) hB ha) (ok_Jxc12de_init_da8c8 M_Jx4a65c_init_da8c8 1) rfl rfl (by decide +kernel) (by decide +kernel) (by omega) (Nat.le_refl _) (Nat.le_refl _) rfl hl.1 (Nat.le_of_ble_eq_true rfl) rfl dJx4a65c_init_da8c8_1 (Nat.le_of_ble_eq_true rfl) (Nat.le_of_ble_eq_true rfl) (fun v H1 L hv hL => ?_)
  obtain ⟨rfl, a1, o1, z1⟩ := hv
  have hold1 : ∀ q, q < cy_B g → H1[q]? = (cy_s g).heap[q]? := fun q hq => by rw [o1 q (by omega)]; exact hold q hq
  have hS1 : va_S (cy_A g) s.heap H1 ([] ++ L) := ⟨by rw [hz, z1]; exact Nat.le_refl _, fun q h1 h2 => by rw [hz]; exact o1 q (fun w => h2 (by show cy_B g ≤ q; omega)), fun q hq => hL q hq⟩
  have hsold : ∀ q, q < cy_B g → s.heap[q]? = (cy_s g).heap[q]? := fun q hq => by rw [hz]; exact hold q hq
  refine lv_aload_n hx hb dJx4a65c_init_da8c8_4 rfl (lv_at hl 0 rfl) ?_
  refine va_gets (own := RJx4a65c) (ref := "java/util/ArrayList") (A := cy_A g) (v := .ref (cy_ea g)) hx hb (ja_dcee hg hW hsold) hS1 hown (cy_wd hg hW (by decide +kernel) (by rfl)) (fun _ h => h) dJx4a65c_init_da8c8_5 ?_
  refine ja_put (M := M_Jx4a65c_init_da8c8) (k := 1) (ref := (TJx4a65c 1).1) hg hE (by decide) jw_9 (fun _ h => h) a1 rfl rfl (Nat.le_of_ble_eq_true rfl) dJx4a65c_init_da8c8_8 (fun H2 a2 o2 z2 j => ?_)
  exact W.vret hx hb hE.2.2.2.1 (fun t ht _ => ⟨_, rfl, rfl, by rw [ht]; exact a2, by rw [ht]; exact fun q hq => (o2 q hq).trans (o1 q hq), by rw [ht, z2, z1]⟩) (fun q hq => by
    rcases List.mem_append.mp hq with h | h
    · exact hL q h
    · rw [List.mem_singleton.mp h]; exact hB) dJx4a65c_init_da8c8_11 hlocks
end JDK5
section JDK6
variable {g : GT} {M : MT} {d uc us pc : Nat} {L : List (Nat × AV)} {st : List AV} {h : Hp} {Φ : Rs → Hp → Prop}
theorem Rel.newL {ad : Nat → Nat → Nat} {H H2 : Heap} {s a : Nat} (hR : Rel g ad h H) (hs : s = 11 ∨ s = 12) (h1 : xCN h s = 0) (h2 : xCN h (s + 2) = 0) (ha : H.size ≤ a) (hz : H.size ≤ H2.size) (hf : ∀ z, z < H.size → H2[z]? = H[z]?) (hl : va_at (cy_D g) vwCl (a, .inr (0, [.int 0, .ref (cy_ea g), .int 0])) H2) :
    Rel g (cy_ad ad s 0 a) (H_newL h s) H2 ∧ Ext ad (xCN h) (cy_ad ad s 0 a) (xCN (H_newL h s)) := by
  have hRR := hR
  obtain ⟨r1, rinj, r3, r4, r5, r6, r7, r8, r9, r10, r11, r12⟩ := hR
  have hCN : ∀ t, xCN (H_newL h s) t = if t = s then 1 else xCN h t := fun _ => rfl
  have hLS : ∀ t, xLS (H_newL h s) t = if t = s then 0 else xLS h t := fun _ => rfl
  have hLE : ∀ t j, xLE (H_newL h s) t j = xLE h t j := fun _ _ => rfl
  have hFI : ∀ k j, xFI (H_newL h s) k j = if k = 100 * s ∧ j = 0 then 0 else xFI h k j := fun _ _ => rfl
  have hLSo : ∀ t, t ≠ s → xLS (H_newL h s) t = xLS h t := fun t q => by rw [hLS, if_neg q]
  have hCNo : ∀ t, t ≠ s → xCN (H_newL h s) t = xCN h t := fun t q => by rw [hCN, if_neg q]
  have hFIo : ∀ k j, k ≠ 100 * s → xFI (H_newL h s) k j = xFI h k j := fun k j q => by rw [hFI, if_neg (fun w => q w.1)]
  have hnew : cy_ad ad s 0 a s 0 = a := if_pos ⟨rfl, rfl⟩
  have hne : ∀ t j, t ≠ s → cy_ad ad s 0 a t j = ad t j := fun t j ht => if_neg (fun q => ht q.1)
  have hlt := fun t j (hj : j < xCN h t) => cy_ok_lt hRR hj
  have hes : ∀ t, cy_es t ≠ s := fun t => by rcases cy_es_v (s := t) with q | q <;> omega
  have hkds : cy_kd s = 6 := by rcases hs with rfl | rfl <;> rfl
  have hln : ∀ t, t ≠ s → cy_ln (H_newL h s) t = cy_ln h t := by
    intro t q
    unfold cy_ln
    rw [hLSo 16 (by omega)]
  have hfs : ∀ t i, i < xCN h t → t ≤ 10 → cy_fs (cy_ad ad s 0 a) (H_newL h s) t i = cy_fs ad h t i := by
    intro t i hi ht
    unfold cy_fs
    refine List.map_congr_left fun k hk => ?_
    have hk2 : k < cy_nF t := List.mem_range.mp hk
    have h44 := cy_nF_le t
    unfold cy_fv
    rw [hFIo _ _ (by omega)]
    split
    · rfl
    · rename_i t' ht'
      have hfr : xFR (H_newL h s) (100 * t + k) i = xFR h (100 * t + k) i := rfl
      rw [hfr]
      cases hq : xFR h (100 * t + k) i with
      | none => rfl
      | some r =>
        have := r4 (100 * t + k) t' i r ht' (by rw [show (100 * t + k) / 100 = t by omega]; exact hi) hq
        exact congrArg Value.ref (hne t' r (fun w => by rw [w, h1] at this; omega))
  have hen : ∀ t i, i < xCN h t → t ≠ s → cy_en g (cy_ad ad s 0 a) (H_newL h s) t i = cy_en g ad h t i := by
    intro t i hi q1
    have hai : xAI (H_newL h s) t i = xAI h t i := rfl
    have hal : xAL (H_newL h s) = xAL h := rfl
    have had : xAD (H_newL h s) = xAD h := rfl
    unfold cy_en
    split
    · rename_i hkd
      rw [hfs t i hi (by
        unfold cy_kd at hkd
        repeat' split at hkd
        all_goals first | omega | (cases hkd))]
    · rw [hln t q1, hai]
    · rw [hal]
    · rw [had]
    · rename_i hkd
      have ht := cy_kd6 hkd
      rw [hFIo _ _ (by omega), hCNo (t + 2) (by omega), hLSo t q1, hne (t + 2) 0 (by omega)]
    · rename_i hkd
      have ht : t = 13 ∨ t = 14 := by
        unfold cy_kd at hkd
        repeat' split at hkd
        all_goals first | omega | (cases hkd)
      have hts : t ≠ s + 2 := fun w => by rw [w, h2] at hi; omega
      have e9 : (fun j => if j < xLS (H_newL h s) (t - 2) then some (cy_ad ad s 0 a (cy_es t) (xLE (H_newL h s) (t - 2) j)) else none) = (fun j => if j < xLS h (t - 2) then some (ad (cy_es t) (xLE h (t - 2) j)) else none) := by
        funext j
        rw [hLSo (t - 2) (by omega), hLE, hne _ _ (hes t)]
      rw [hLSo t q1, e9]
    · rw [hln t q1, hai]
  refine ⟨⟨fun t i hi => ?_, fun t i u j hi hj q => ?_, fun t j hj h8 => ?_, fun k t i j hk hi hj => ?_, fun t j ht hj => ?_, fun t ht hc => ?_, by omega, fun q hq => ?_, fun t h11 h18 => ?_, fun h15 => ?_, fun t j hj h8 => ?_, fun q hq => ⟨Nat.lt_of_lt_of_le (r12 q hq).1 hz, by rw [hf q (r12 q hq).1]; exact (r12 q hq).2⟩⟩, fun t j hj => ⟨?_, fun n1 n2 => hne t j (fun w => by rw [w, h1] at hj; omega)⟩⟩
  · by_cases q : t = s
    · subst q
      rw [hCN, if_pos rfl] at hi
      have hi9 : i = 0 := by omega
      subst hi9
      unfold cy_ok
      rw [if_neg (by rw [hkds]; decide), hnew]
      unfold cy_en
      rw [hkds]
      show va_at (cy_D g) vwCl (a, .inr (0, [.int (xFI (H_newL h t) (100 * t) 0), .ref (if xCN (H_newL h t) (t + 2) = 0 then cy_ea g else cy_ad ad t 0 a (t + 2) 0), .int (nI (xLS (H_newL h t) t))])) H2
      have e1 : xFI (H_newL h t) (100 * t) 0 = 0 := by rw [hFI, if_pos ⟨rfl, rfl⟩]
      have e2 : xCN (H_newL h t) (t + 2) = 0 := by rw [hCNo _ (by omega)]; exact h2
      have e3 : xLS (H_newL h t) t = 0 := by rw [hLS, if_pos rfl]
      rw [e1, e2, e3, if_pos rfl]
      exact hl
    · rw [hCNo t q] at hi
      have h0 := r1 t i hi
      unfold cy_ok at h0 ⊢
      by_cases h8 : cy_kd t = 8
      · rw [if_pos h8] at h0 ⊢
        rw [hln t q, hne t i q]
        exact h0.kept (hf _ (hlt t i hi))
      · rw [if_neg h8] at h0 ⊢
        rw [hen t i hi q, hne t i q]
        exact h0.kept (hf _ (hlt t i hi))
  · rw [hCN] at hi hj
    by_cases ht : t = s <;> by_cases hu : u = s
    · rw [if_pos ht] at hi
      rw [if_pos hu] at hj
      exact ⟨ht.trans hu.symm, by omega⟩
    · rw [if_pos ht] at hi
      rw [if_neg hu] at hj
      have hi9 : i = 0 := by omega
      rw [ht, hi9, hnew, hne u j hu] at q
      have := hlt u j hj
      omega
    · rw [if_neg ht] at hi
      rw [if_pos hu] at hj
      have hj9 : j = 0 := by omega
      rw [hu, hj9, hnew, hne t i ht] at q
      have := hlt t i hi
      omega
    · rw [if_neg ht] at hi
      rw [if_neg hu] at hj
      rw [hne t i ht, hne u j hu] at q
      exact rinj t i u j hi hj q
  · rw [hCN] at hj
    by_cases ht : t = s
    · rw [if_pos ht] at hj
      have hj9 : j = 0 := by omega
      rw [ht, hj9, hnew]
      omega
    · rw [if_neg ht] at hj
      rw [hne t j ht]
      exact r3 t j hj h8
  · have hlt9 := cy_ft_lt hk
    rw [hCNo _ (by omega)] at hi
    have hj9 := r4 k t i j hk hi hj
    rw [hCNo t (fun w => by rw [w, h1] at hj9; omega)]
    exact hj9
  · rw [hCNo _ (hes _), hLE]
    by_cases q : t = s
    · rw [hLS, if_pos q] at hj
      omega
    · rw [hLSo t q] at hj
      exact r5 t j ht hj
  · by_cases q : t = s
    · subst q
      exact Or.inl ⟨by rw [hLS, if_pos rfl], by rw [hCNo _ (by omega)]; exact h2⟩
    · rw [hCNo t q] at hc
      rw [hLSo t q, hCNo (t + 2) (by omega), hLSo (t + 2) (by omega)]
      exact r6 t ht hc
  · rw [hf q (by omega)]
    exact r8 q hq
  · rw [hCN]
    by_cases q : t = s
    · rw [if_pos q]; exact Nat.le_refl 1
    · rw [if_neg q]; exact r9 t h11 h18
  · rw [hCNo 15 (by omega)] at h15
    rw [hne 15 0 (by omega)]
    exact r10 h15
  · rw [hCN] at hj
    by_cases ht : t = s
    · rw [if_pos ht] at hj
      have hj9 : j = 0 := by omega
      rw [ht, hj9, hnew]
      exact fun q => by have := (r12 _ q).1; omega
    · rw [if_neg ht] at hj
      rw [hne t j ht]
      exact r11 t j hj h8
  · rw [hCN]
    by_cases q : t = s
    · rw [q, h1] at hj
      omega
    · rw [if_neg q]; exact hj
theorem jd_newL {s index index2 : Nat} (hs : s = 11 ∨ s = 12) (h1 : xCN h s = 0) (h2 : xCN h (s + 2) = 0) (hdd : 5 ≤ d) (hr8 : (st.map cy_ct).sum ≤ 4) (hcl : Cond.classLink (mO M) index RJx4a65c ∈ lw_tbl) (hl : Cond.methodLink (mO M) index2 yJx4a65c_init_da8c8 ∈ lw_tbl)
    (hd : decode (mC M) pc = .ok (.new index, 3)) (hd1 : decode (mC M) (pc + 3) = .ok (.dup, 1)) (hd2 : decode (mC M) (pc + 4) = .ok (.invokespecial index2, 3))
    (kk : WP g M d uc us (pc + 7) L (.inr (s, some 0) :: st) (H_newL h s) Φ) : WP g M d (uc + 1) (us + 3) pc L st h Φ := by
  intro hg p e9 R s0 m args below meth c H locs cells slots ls ad ad0 cn0 hE hd9 hdl hc hs9 hr hx9 hR hB hS hlv hwL hwS
  have hJ : JE g M p s0 m meth c := ⟨hE.1, hE.2.1, hE.2.2.1, hE.2.2.2.1, hE.2.2.2.2.1, hE.2.2.2.2.2.1, hE.2.2.2.2.2.2.1⟩
  have hW := hE.2.2.2.2.2.2.1
  have hK := cy_K hg hW
  have c1 : vwCl[0]? = some (RJx4a65c, TJx4a65c, 3) := rfl
  have hKn := hK.1 0 _ c1
  have hts : ∀ w ∈ u_ws RJx4a65c TJx4a65c 3, w.before args s0 = true := cy_words hg hW jw_lay
  have hBz : cy_B g ≤ H.size := hR.2.2.2.2.2.2.1
  refine W.newcK hE.1 hE.2.1 hE.2.2.2.2.1 (cy_wd hg hW hcl (by rfl)) (cy_wd hg hW (w := Cond.instantiable RJx4a65c 3) (by decide +kernel) (by rfl)) (cy_wd hg hW (w := Cond.initialized RJx4a65c) (by decide +kernel) (by rfl)) rfl hd (by omega) (by omega) hKn.2.1 rfl fun H1 kC hkC e1 z1 o1 => ?_
  have hb1 := u_born tyJx4a65c hts (fun w hw => hw) hKn hkC e1 tyJx4a65c_ok
  have a1 : va_at (cy_D g) vwCl (H.size, .inr (0, [.int 0, .null, .int 0])) H1 := ⟨_, c1, hb1.to fun k hk => by rcases (show k = 0 ∨ k = 1 ∨ k = 2 by omega) with rfl | rfl | rfl <;> rfl⟩
  refine W.eq (g2 := F0 m (pc + 3) ls (.ref H.size :: st.map (cy_cv ad))) rfl ?_
  refine lv_dup hE.1 hE.2.1 hd1 rfl ?_
  have hold1 : ∀ q, q < cy_B g → H1[q]? = (cy_s g).heap[q]? := fun q hq => by rw [o1 q (by omega)]; exact hR.2.2.2.2.2.2.2.1 q hq
  refine jr_I (M := M) (M' := M_Jx4a65c_init_da8c8) (d := d) (d' := d - 1) (b := H.size) (As := []) (rest := .ref H.size :: st.map (cy_cv ad)) hg hJ (jd_initA hg (by omega) hBz hold1 a1) (ok_Jx4a65c_init_da8c8 M index2) rfl rfl hl im_Jx4a65c_init_da8c8 (by omega) hd9 hdl rfl hlv.1 (by
    have k := cy_cat (ad := ad) (rest := st) (by omega)
    have k2 : (((st.map (cy_cv ad)).map fun v => v.category).sum) = (st.map cy_ct).sum := by
      rw [List.map_map]; congr 1; exact List.map_congr_left fun v _ => cy_ct_cv ad v
    rw [List.map_cons, List.sum_cons, k2]
    show 1 + _ ≤ 8
    omega) rfl hd2 (by omega) (by omega) (fun v H2 L2 hv hL2 => ?_)
  obtain ⟨rfl, a2, o2, z2⟩ := hv
  obtain ⟨hR2, hX2⟩ := Rel.newL (H2 := H2) hR hs h1 h2 (Nat.le_refl _) (by omega) (fun z hz => by rw [o2 z (by omega)]; exact o1 z hz) a2
  have hst : ((st.map (cy_cv ad))) = st.map (cy_cv (cy_ad ad s 0 H.size)) := List.map_congr_left fun v hv => (cy_cv_ext hX2 (hwS v hv)).symm
  have hLm : (L.map (fun q => (q.1, cy_cv ad q.2))) = L.map (fun q => (q.1, cy_cv (cy_ad ad s 0 H.size) q.2)) := List.map_congr_left fun q hq => by rw [cy_cv_ext hX2 (hwL q hq)]
  have hnewad : cy_ad ad s 0 H.size s 0 = H.size := if_pos ⟨rfl, rfl⟩
  have K := kk hg p e9 R s0 m args below meth c H2 (locs ++ L2) (cells + 1 + 0) (slots + 3 + 0) ls (cy_ad ad s 0 H.size) ad0 cn0 hE hd9 hdl (by omega) (by omega) hr (hx9.trans hX2) hR2 hB
    ⟨by have := hS.1; omega, fun q q1 q2 => by
      have hqH : q < H.size := Nat.lt_of_lt_of_le q1 hS.1
      rw [o2 q (by omega), o1 q hqH]
      exact hS.2.1 q q1 q2, fun q hq => by
      rcases List.mem_append.mp hq with w | w
      · exact hS.2.2 q w
      · exact hL2 q w⟩ (by rw [← hLm]; exact hlv) (fun q hq => cy_wf_ext hX2 (hwL q hq))
    (cy_push ⟨by omega, by omega, fun i e => by cases e; show 0 < (if s = s then 1 else xCN h s); rw [if_pos rfl]; decide⟩ (fun v hv => cy_wf_ext hX2 (hwS v hv)))
  simp only [List.map_cons, cy_cv, Option.map_some, hnewad, va_rf] at K
  rw [hst]
  exact K
end JDK6
