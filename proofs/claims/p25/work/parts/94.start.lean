/-! ===== own: the law from its entry ===== -/
theorem Rel.stay2 {g : GT} {G G' : Heap} {ad : Nat → Nat → Nat} {h : Hp} {H H1 : Heap} (hg : cy_ca g < cy_B g) (hR : Rel (pn g (fun _ => False) G) ad h H) (h16 : xCN h 16 = 0) (hz : cy_B g ≤ H1.size) (hB : ∀ q, q < cy_B g → H1[q]? = H[q]?) (hq : ∀ q, ftp ad (xCN h) q → H1[q]? = H[q]?) : Rel (pn g (fun _ => False) G') ad h H1 := by
  obtain ⟨r1, r2, r3, r4, r5, r6, r7, r8, r9, r10, r11, r12⟩ := hR
  refine ⟨fun s i hi => ?_, r2, r3, r4, r5, r6, hz, fun q h => (hB q h).trans (r8 q h), r9, r10, fun _ _ _ _ q => q, fun q w => w.elim⟩
  have h0 := r1 s i hi
  unfold cy_ok at h0 ⊢
  by_cases h8 : cy_kd s = 8
  · rw [if_pos h8] at h0 ⊢
    refine h0.kept (hB _ ?_)
    have hs : s = 15 ∨ s = 16 := by
      unfold cy_kd at h8
      repeat' split at h8
      all_goals first | omega | (cases h8)
    rcases hs with rfl | rfl
    · have i0 : i = 0 := by have := r9 15 (by decide) (by decide); omega
      subst i0
      rw [r10 hi]
      exact hg
    · rw [h16] at hi
      omega
  · rw [if_neg h8] at h0 ⊢
    exact h0.kept (hq _ ⟨s, i, hi, h8, rfl⟩)
set_option maxRecDepth 100000 in
set_option maxHeartbeats 4000000 in
theorem st_o {g : GT} {d uc us b : Nat} {Φ : Rs → Hp → Prop} (hd : 16 ≤ d) (kk : WP g M_L_law d uc us 8 [(1, .inr (9, some 0)), (0, .inl (.ref b))] [] Hw1 Φ) : WP g M_L_law d (uc + 14 + 1) (us + 255 + 6) 0 [(0, .inl (.ref b))] [] Hw0 Φ := by
  refine wx_newC (M := M_L_law) (s := 9) (i := 0) rfl cls_9 cl_L_25 in_9 ini_9 dL_law_0 ?_
  refine wp_run [(.dup, 1)] (pc' := 4) (L' := [(0, .inl (.ref b))]) (st' := [.inr (9, some 0), .inr (9, some 0)]) ⟨dL_law_3, trivial⟩ rfl rfl ?_
  refine wx_ctorDP (M := M_L_law) (s := 9) (i := 0) (As := []) (rest := [.inr (9, some 0)]) (ok_X8_init _ _) rfl rfl ml_L_136 im_X8_init (by omega) (c_X8_init (d := d - 1) (by omega) rfl rfl rfl rfl rfl rfl rfl rfl rfl rfl rfl rfl rfl rfl rfl rfl) rfl rfl (Nat.le_of_ble_eq_true rfl) dL_law_4 (fun _ => ?_)
  refine wp_run [(.astore_n 1, 1)] (pc' := 8) (L' := [(1, .inr (9, some 0)), (0, .inl (.ref b))]) (st' := []) ⟨dL_law_7, trivial⟩ rfl rfl ?_
  exact kk
set_option maxRecDepth 100000 in
set_option maxHeartbeats 4000000 in
theorem st_t {g : GT} {d uc us b a : Nat} {Φ : Rs → Hp → Prop} (hd : 16 ≤ d) (kk : WP g M_L_law d uc us 16 [(2, .inr (9, some 0)), (1, .inl (.ref a)), (0, .inl (.ref b))] [] Hw1 Φ) : WP g M_L_law d (uc + 14 + 1) (us + 255 + 6) 8 [(1, .inl (.ref a)), (0, .inl (.ref b))] [] Hw0 Φ := by
  refine wx_newC (M := M_L_law) (s := 9) (i := 0) rfl cls_9 cl_L_25 in_9 ini_9 dL_law_8 ?_
  refine wp_run [(.dup, 1)] (pc' := 12) (L' := [(1, .inl (.ref a)), (0, .inl (.ref b))]) (st' := [.inr (9, some 0), .inr (9, some 0)]) ⟨dL_law_11, trivial⟩ rfl rfl ?_
  refine wx_ctorDP (M := M_L_law) (s := 9) (i := 0) (As := []) (rest := [.inr (9, some 0)]) (ok_X8_init _ _) rfl rfl ml_L_136 im_X8_init (by omega) (c_X8_init (d := d - 1) (by omega) rfl rfl rfl rfl rfl rfl rfl rfl rfl rfl rfl rfl rfl rfl rfl rfl) rfl rfl (Nat.le_of_ble_eq_true rfl) dL_law_12 (fun _ => ?_)
  refine wp_run [(.astore_n 2, 1)] (pc' := 16) (L' := [(2, .inr (9, some 0)), (1, .inl (.ref a)), (0, .inl (.ref b))]) (st' := []) ⟨dL_law_15, trivial⟩ rfl rfl ?_
  exact kk
theorem fresh_R {g : GT} {H G : Heap} {X : Nat → Prop} (hz : cy_B g ≤ H.size) (ho : ∀ q, q < cy_B g → H[q]? = (cy_s g).heap[q]?) (hC : va_X (cy_ca g) 3 (fun j => if j = 0 then 14 else if j = 1 then 30 else 120) (cy_s g) (cy_s g).heap) (hcB : cy_ca g < cy_B g) (hX : ∀ q, X q → q < H.size ∧ H[q]? = G[q]?) : Rel (pn g X G) (fun _ _ => cy_ca g) Hw0 H := by
  have hCN : ∀ t, xCN Hw0 t = if t = 15 then 1 else 0 := fun _ => rfl
  have h0 : ∀ t i, i < xCN Hw0 t → t = 15 ∧ i = 0 := by
    intro t i hi
    rw [hCN] at hi
    by_cases q : t = 15
    · rw [if_pos q] at hi; exact ⟨q, by omega⟩
    · rw [if_neg q] at hi; omega
  refine ⟨fun t i hi => ?_, fun t i u j hi hj e => ?_, fun t i hi h8 => ?_, fun k t i j hk hi hj => ?_, fun t j ht hj => ?_, fun t ht hc => ?_, hz, ho, fun t h1 h2 => ?_, fun _ => rfl, fun t i hi h8 => ?_, hX⟩
  · obtain ⟨rfl, rfl⟩ := h0 t i hi
    exact hC.kept (ho _ hcB)
  · obtain ⟨rfl, rfl⟩ := h0 t i hi
    obtain ⟨rfl, rfl⟩ := h0 u j hj
    exact ⟨rfl, rfl⟩
  · obtain ⟨rfl, rfl⟩ := h0 t i hi
    exact absurd rfl h8
  · have := (h0 _ i hi).1
    have := cy_ft_lt hk
    omega
  · rcases ht with rfl | rfl
    · exact absurd hj (Nat.not_lt_zero j)
    · exact absurd hj (Nat.not_lt_zero j)
  · rcases ht with rfl | rfl
    · exact absurd hc (Nat.lt_irrefl 0)
    · exact absurd hc (Nat.lt_irrefl 0)
  · rw [hCN]
    by_cases q : t = 15
    · rw [if_pos q]; exact Nat.le_refl 1
    · rw [if_neg q]; exact Nat.zero_le 1
  · obtain ⟨rfl, rfl⟩ := h0 t i hi
    exact absurd rfl h8
