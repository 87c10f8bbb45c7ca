/-! ===== own: fields, arrays and new objects over the abstract judgement ===== -/
theorem cy_P1 {D : va_G} {cl : List vw_C} {q : Nat × va_E} {H : Heap} (h : va_at D cl q H) : va_P D cl [q] H := by
  intro k r hk
  match k, hk with
  | 0, hk => cases hk; exact h
  | k + 1, hk => simp at hk
/-- what the tables say of the class at the site s -/
def ClsOk (s : Nat) (C : String) (T : u_T) (N : Nat) (ty : Nat → FieldType) : Prop :=
  vwCl[s]? = some (C, T, N) ∧ (∀ w ∈ u_ws C T N, w ∈ lw_tbl ∧ goodWord w = true) ∧ (∀ k, k < N → parseFieldDescriptor (T k).2.2.1 = some (ty k)) ∧ (∀ a, a < N → ∀ b, b < N → a ≠ b → (T a).2.1 ≠ (T b).2.1) ∧ N = cy_nF s ∧ cy_kd s = 1 ∧ ∀ k, k < N → (ty k = .int ∧ cy_ft (100 * s + k) = none) ∨ (∃ t, cy_ft (100 * s + k) = some t ∧ t ≠ 13 ∧ t ≠ 14 ∧ defaultValue (ty k) = .null ∧ ∀ r : Option Nat, narrow (ty k) (va_rf r) = va_rf r ∧ fits (ty k) (va_rf r) = true)
theorem cy_fs_at (ad : Nat → Nat → Nat) (h : Hp) (s i k : Nat) (hk : k < cy_nF s) : (cy_fs ad h s i)[k]? = some (cy_fv ad h s k i) := by
  simp [cy_fs, hk]
theorem cy_obj {g : GT} {ad : Nat → Nat → Nat} {h : Hp} {H : Heap} {s i : Nat} (hR : Rel g ad h H) (hi : i < xCN h s) (hk : cy_kd s = 1) : va_at (cy_D g) vwCl (ad s i, .inr (s, cy_fs ad h s i)) H := by
  have h1 := hR.1 s i hi
  unfold cy_ok at h1
  rw [if_neg (by rw [hk]; decide)] at h1
  unfold cy_en at h1
  rw [hk] at h1
  exact h1
theorem cy_arr {g : GT} {ad : Nat → Nat → Nat} {h : Hp} {H : Heap} {s i : Nat} (hR : Rel g ad h H) (hi : i < xCN h s) (hk : cy_kd s = 2) : va_at (cy_D g) vwCl (ad s i, .inl (cy_cA g 0, cy_ln h s, .inl (xAI h s i))) H := by
  have h1 := hR.1 s i hi
  unfold cy_ok at h1
  rw [if_neg (by rw [hk]; decide)] at h1
  unfold cy_en at h1
  rw [hk] at h1
  exact h1
theorem cy_boo {g : GT} {ad : Nat → Nat → Nat} {h : Hp} {H : Heap} {s i : Nat} (hR : Rel g ad h H) (hi : i < xCN h s) (hk : cy_kd s = 3) : va_at (cy_D g) vwCl (ad s i, .inl (cy_cA g 1, cy_ln h s, .inl (xAI h s i))) H := by
  have h1 := hR.1 s i hi
  unfold cy_ok at h1
  rw [if_neg (by rw [hk]; decide)] at h1
  unfold cy_en at h1
  rw [hk] at h1
  exact h1
theorem cy_lon {g : GT} {ad : Nat → Nat → Nat} {h : Hp} {H : Heap} {i : Nat} (hR : Rel g ad h H) (hi : i < xCN h 17) : va_at (cy_D g) vwCl (ad 17 i, .inl (cy_cA g 2, 1, .inr (.inl (xAL h)))) H := hR.1 17 i hi
theorem cy_dou {g : GT} {ad : Nat → Nat → Nat} {h : Hp} {H : Heap} {i : Nat} (hR : Rel g ad h H) (hi : i < xCN h 18) : va_at (cy_D g) vwCl (ad 18 i, .inl (cy_cA g 3, 1, .inr (.inr (.inr (.inl (xAD h)))))) H := hR.1 18 i hi
theorem cy_sta {g : GT} {ad : Nat → Nat → Nat} {h : Hp} {H : Heap} {s i : Nat} (hR : Rel g ad h H) (hi : i < xCN h s) (hk : cy_kd s = 8) : va_X (ad s i) (cy_ln h s) (xAI h s i) (cy_s g) H := by
  have h1 := hR.1 s i hi
  unfold cy_ok at h1
  rw [if_pos hk] at h1
  exact h1
/-- one cell written -/
theorem Rel.put {g : GT} {ad : Nat → Nat → Nat} {h h1 : Hp} {H H1 : Heap} {s i : Nat} (hR : Rel g ad h H) (hi : i < xCN h s) (hk8 : cy_kd s ≠ 8) (hCN : xCN h1 = xCN h) (hLS : xLS h1 = xLS h) (hLE : xLE h1 = xLE h)
    (hat : va_at (cy_D g) vwCl (ad s i, cy_en g ad h1 s i) H1) (oq : ∀ q, q ≠ ad s i → H1[q]? = H[q]?) (hz : H1.size = H.size)
    (hen : ∀ t j, j < xCN h t → ¬ (t = s ∧ j = i) → cy_en g ad h1 t j = cy_en g ad h t j) (hx : ∀ t j, cy_kd t = 8 → xAI h1 t j = xAI h t j)
    (hfr : ∀ k t a j, cy_ft k = some t → a < xCN h (k / 100) → xFR h1 k a = some j → j < xCN h t) : Rel g ad h1 H1 := by
  obtain ⟨r1, r2, r3, r4, r5, r6, r7, r8, r9, r10, r11, r12⟩ := hR
  have hln : ∀ t, cy_ln h1 t = cy_ln h t := fun t => by unfold cy_ln; rw [hLS]
  have hb : cy_B g ≤ ad s i := r3 s i hi hk8
  refine ⟨fun t j hj => ?_, ?_, ?_, ?_, ?_, ?_, by rw [hz]; exact r7, fun q hq => ?_, ?_, ?_, ?_, fun q hq => ⟨by rw [hz]; exact (r12 q hq).1, by rw [oq q (fun e => r11 s i hi hk8 (e ▸ hq))]; exact (r12 q hq).2⟩⟩
  · rw [hCN] at hj
    by_cases hst : t = s ∧ j = i
    · obtain ⟨rfl, rfl⟩ := hst
      unfold cy_ok
      rw [if_neg hk8]
      exact hat
    · have hne : ad t j ≠ ad s i := fun e => hst (r2 t j s i hj hi e)
      have h0 := r1 t j hj
      unfold cy_ok at h0 ⊢
      by_cases h8 : cy_kd t = 8
      · rw [if_pos h8] at h0 ⊢
        rw [hln, hx t j h8]
        exact h0.kept (oq _ hne)
      · rw [if_neg h8] at h0 ⊢
        rw [hen t j hj hst]
        exact h0.kept (oq _ hne)
  · rw [hCN]; exact r2
  · rw [hCN]; exact r3
  · rw [hCN]; exact hfr
  · rw [hCN, hLS, hLE]; exact r5
  · rw [hCN, hLS]; exact r6
  · rw [oq q (fun e => by rw [e] at hq; exact absurd hb (Nat.not_le.mpr hq))]; exact r8 q hq
  · rw [hCN]; exact r9
  · rw [hCN]; exact r10
  · rw [hCN]; exact r11
