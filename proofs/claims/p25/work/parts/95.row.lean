/-! ===== own: the second object and the row ===== -/
theorem rm1 {x R : Nat} (h : x + 350001 ≤ R) : x + 1 + 350000 ≤ R := by
  rw [Nat.add_assoc]
  exact h
theorem rm2 {x R : Nat} (h : x + 2100043 ≤ R) : x + 43 + 2100000 ≤ R := by
  rw [Nat.add_assoc]
  exact h
set_option maxRecDepth 100000 in
set_option maxHeartbeats 4000000 in
theorem st_k {g : GT} {b L : Nat} {xs : Nat → Int32} {h1 : Hp} {H : Heap} {ad : Nat → Nat → Nat} (hg : SF g) (hL : L ≤ 260) (hgX : va_X b L xs (cy_s g) (cy_s g).heap) (hbB : b < cy_B g) (hcB : cy_ca g < cy_B g) (h9 : 0 < xCN h1 9) (h16 : xCN h1 16 = 0) (hIV : IV h1 (fun _ => 0))
    (hoH : ∀ q, q < cy_B g → H[q]? = (cy_s g).heap[q]?) (hR1 : Rel (pn g (fun _ => False) H) ad h1 H) : WP (pn g (ftp ad (xCN h1)) H) M_L_law 25 350001 2100043 16 [(2, .inr (9, some 0)), (1, .inl (.ref (ad 9 0))), (0, .inl (.ref b))] [] h1 (fun _ _ => True) := by
  have hM : mL M_L_law ≠ 0 := by decide
  intro hg' p' e' R' s0' m' args' below' meth' c' H2 locs' cells' slots' ls' ad2 ad0' cn0' hE' hd' hdl' hc' hs' hr' hx' hR' hB' hS' hl' hwL' hwS'
  have hz2 : cy_B g ≤ H2.size := hR'.2.2.2.2.2.2.1
  have ho2 : ∀ q, q < cy_B g → H2[q]? = (cy_s g).heap[q]? := hR'.2.2.2.2.2.2.2.1
  have r11 := hR'.2.2.2.2.2.2.2.2.2.2.1
  have r12 := hR'.2.2.2.2.2.2.2.2.2.2.2
  have oR : Rel (pn g (fun _ => False) H2) ad h1 H2 := hR1.stay2 hcB h16 hz2 (fun q h => (ho2 q h).trans (hoH q h).symm) (fun q z => (r12 q z).2)
  have tR : Rel (pn g (fun _ => False) H2) ad2 h1 H2 := hR'.pins (fun _ _ _ _ q => q) (fun _ q => q.elim)
  have hW := hE'.2.2.2.2.2.2.1
  have hK := cy_K hg' hW
  simp only [cy_Fi, hM, if_false]
  refine lv_bipush (v := 43) hE'.1 hE'.2.1 dL_law_16 rfl ?_
  refine va_newaK (atype := .int) (N := 43) hE'.1 hE'.2.1 (cy_wd hg' hW arr_int (by rfl)) rfl dL_law_18 rfl (by decide) (by decide) (Nat.le_trans (Nat.mul_le_mul (show 43 ≤ 2000 by decide) (show componentBytes (newarray.typeOf .int) ≤ 8 by decide)) (by decide)) (by omega) (by omega) rfl fun H3 cA e1 z1 o1 hAr hNm => ?_
  have hcA : cA = cy_cA g 0 := Option.some.inj (hNm.symm.trans (hK.2 0 _ rfl).2)
  subst hcA
  refine lv_astore_n (k := 3) (i := 3) (nL := 9) (lv' := [(3, .ref H2.size), (2, .ref (ad2 9 0)), (1, .ref (ad 9 0)), (0, .ref b)]) hE'.1 hE'.2.1 dL_law_20 rfl hl' (by decide) rfl fun ls3 hl3 => ?_
  have fo : ∀ q, ftp ad (xCN h1) q → q < H2.size := fun q z => (r12 q z).1
  have ft : ∀ q, ftp ad2 (xCN h1) q → q < H2.size := fun q z => by
    obtain ⟨s', i, hi, -, e'⟩ := z
    rw [e']
    exact cy_ok_lt hR' hi
  have ob : ∀ q, q < cy_B g → H3[q]? = H2[q]? := fun q h => o1 q (by omega)
  obtain ⟨ad4, hA⟩ : ∃ ad4 : Nat → Nat → Nat, ad4 = fun s _ => if s = 1 then ad 9 0 else if s = 2 then ad2 9 0 else if s = 3 then H2.size else b := ⟨_, rfl⟩
  have a1 : ad4 1 0 = ad 9 0 := by rw [hA]; rfl
  have a2 : ad4 2 0 = ad2 9 0 := by rw [hA]; rfl
  have a3 : ad4 3 0 = H2.size := by rw [hA]; rfl
  have a4 : ad4 4 0 = b := by rw [hA]; rfl
  have hRL : RelL g ad4 (h1, h1, (fun _ => 0), xs, L) H3 := by
    refine ⟨ad, ad2, h1, h1, ⟨ZX.rf, oR.stay2 hcB h16 (by omega) ob (fun q z => o1 q (fo q z)), a1, h9, h16, fun q z y => ?_⟩, ⟨ZX.rf, tR.stay2 hcB h16 (by omega) ob (fun q z => o1 q (ft q z)), a2, h9, h16, fun q z y => ?_⟩, ?_, by rw [a3]; exact hz2, ?_, by rw [a4]; exact hbB, hcB⟩
    · rw [a3] at y
      rcases y with ⟨s', i, hi, h8, e'⟩ | y
      · exact r11 s' i hi h8 (e' ▸ z)
      · have := fo q z
        omega
    · rw [a3] at y
      obtain ⟨s', i, hi, h8, e'⟩ := z
      rcases y with y | y
      · exact r11 s' i hi h8 (e' ▸ y)
      · have := ft q ⟨s', i, hi, h8, e'⟩
        omega
    · rw [a3]
      exact e1
    · rw [a4]
      exact hgX.kept ((ob b hbB).trans (ho2 b hbB))
  have K := law_main (g := g) (d := 25) (by decide) hL (Φ := fun _ _ => True) (S := xs) hIV hg p' e' R' s0' m' args' below' meth' c' H3 locs' (cells' + 1) (slots' + 43) ls3 ad4 ad4 cnL hE' hd' hdl' (rm1 hc') (rm2 hs') hr' (Ext.refl _ _) hRL hB'
    ⟨Nat.le_trans hS'.1 (by omega), fun q h1 h2 => (o1 q (Nat.lt_of_lt_of_le h1 hS'.1)).trans (hS'.2.1 q h1 h2), hS'.2.2⟩
    (by simp only [List.map_cons, List.map_nil, cy_cv, Option.map_some, a1, a2, a3, a4, va_rf]; exact hl3)
    (fun q hq => by
      simp only [List.mem_cons, List.not_mem_nil, or_false] at hq
      rcases hq with rfl | rfl | rfl | rfl <;> exact ⟨by decide, by decide, fun i e => by cases e; exact Nat.one_pos⟩) (fun v hv => by cases hv)
  simp only [cl_Fi, hM, if_false] at K
  exact K
