/-! ===== own: from the entry ===== -/
set_option maxRecDepth 100000 in
set_option maxHeartbeats 4000000 in
theorem st_main {g : GT} {b L : Nat} {xs : Nat → Int32} (hL : L ≤ 260) (hgX : va_X b L xs (cy_s g) (cy_s g).heap) (hgC : va_X (cy_ca g) 3 (fun j => if j = 0 then 14 else if j = 1 then 30 else 120) (cy_s g) (cy_s g).heap) (hbB : b < cy_B g) (hcB : cy_ca g < cy_B g) :
    WP g M_L_law 25 (350016 + 14 + 1) (2100304 + 255 + 6) 0 [(0, .inl (.ref b))] [] Hw0 (fun _ _ => True) := by
  have hM : mL M_L_law ≠ 0 := by decide
  have h9 : 0 < xCN Hw1 9 := by rw [Hw1_q4.2]; exact Nat.one_pos
  have h16 : xCN Hw1 16 = 0 := Hw1_q4.1
  have hIV := Hw1_iv
  refine st_o (uc := 350016) (us := 2100304) (by decide) ?_
  generalize hHw : Hw1 = h1 at h9 h16 hIV ⊢
  intro hg p e R s0 m args below meth c H locs cells slots ls ad ad0 cn0 hE hd9 hdl hc hs9 hr hx hR hB hS hl hwL hwS
  have hzH : cy_B g ≤ H.size := hR.2.2.2.2.2.2.1
  have hoH : ∀ q, q < cy_B g → H[q]? = (cy_s g).heap[q]? := hR.2.2.2.2.2.2.2.1
  have hR1 : Rel (pn g (fun _ => False) H) ad h1 H := Rel.pins (g := g) (X := g.2.2.2.2.2.2.2.1) (G := g.2.2.2.2.2.2.2.2) hR (fun _ _ _ _ q => q) (fun _ q => q.elim)
  have hXH : ∀ q, ftp ad (xCN h1) q → q < H.size ∧ H[q]? = H[q]? := fun q z => by
    obtain ⟨s', i, hi, -, e'⟩ := z
    rw [e']
    exact ⟨cy_ok_lt hR hi, rfl⟩
  have hR2 : Rel (pn g (ftp ad (xCN h1)) H) (fun _ _ => cy_ca g) Hw0 H := fresh_R hzH hoH hgC hcB hXH
  have k := st_k hg hL hgX hbB hcB h9 h16 hIV hoH hR1
  subst hHw
  have K2 := st_t (g := pn g (ftp ad (xCN Hw1)) H) (d := 25) (uc := 350001) (us := 2100043) (a := ad 9 0) (b := b) (Φ := fun _ _ => True) (by decide) k (pn_sf hg _ _) p e R s0 m args below meth c H locs cells slots ls (fun _ _ => cy_ca g) (fun _ _ => cy_ca g) (xCN Hw0) hE hd9 hdl (by omega) (by omega) hr (Ext.refl _ _) hR2 hB hS hl (fun q hq => by
      simp only [List.mem_cons, List.not_mem_nil, or_false] at hq
      rcases hq with rfl | rfl <;> trivial) (fun v hv => by cases hv)
  simp only [cy_Fi, hM, if_false] at K2 ⊢
  exact K2
set_option maxRecDepth 100000 in
/-- from the entry, for every script of at most 260 ints, the law comes to its end with true -/
theorem whole_start {p : Program} {e : Env} {s : State} {m : MethodId} {below : List Frame} {meth : Method} {c : Code} (l : Launch) (hflags : l.flags = flags0) {b L : Nat} {xs : Nat → Int32} (hL : L ≤ 260) (C0 : lw_At p s m meth c b L xs) : W p l e room_1 s m #[Value.ref b] below meth c s.heap [] 0 0 (lw_Z below #[Value.ref b] s) (entryFrame m ([Value.ref b] : List Value).toArray 9) := by
  obtain ⟨D, cA, ea, ca, hSF, hC, hne, hcl⟩ := ws_SF l hflags C0
  obtain ⟨hx, hb, hr, hml, hown, hts, hX, hbl, hlocks, hgv⟩ := id C0
  have hl := lv_entry ([.ref b]) (n := 9) (Nat.le_of_ble_eq_true rfl)
  rw [lg_entry_eq]
  generalize (lg_sl ([.ref b]) ++ List.replicate (9 - (lg_sl ([.ref b])).length) Slot.unset).toArray = ls at hl ⊢
  have hl : lv_has ls 9 [(0, .ref b)] := hl
  have hR : Rel (pn (l, s, #[Value.ref b], D, cA, ea, ca, (fun _ => False), s.heap) (fun _ => False) s.heap) (fun _ _ => ca) Hw0 s.heap := fresh_R (g := (l, s, #[Value.ref b], D, cA, ea, ca, (fun _ => False), s.heap)) (Nat.le_refl _) (fun _ _ => rfl) hC hcl (fun _ q => q.elim)
  have K := st_main (g := (l, s, #[Value.ref b], D, cA, ea, ca, (fun _ => False), s.heap)) hL hX hC hbl hcl (hSF _ _) p e room_1 s m #[Value.ref b] below meth c s.heap [] 0 0 ls (fun _ _ => ca) (fun _ _ => ca) (xCN Hw0)
    ⟨hx, hb, hml, hr, hown, hlocks, State.WarmedH.refl s, (fun z => absurd z (by decide)), (fun _ => ⟨⟨b, rfl⟩, Nat.le_refl _⟩)⟩
    (Nat.le_of_ble_eq_true rfl) (Nat.le_of_ble_eq_true rfl) (Nat.le_of_ble_eq_true rfl) (Nat.le_of_ble_eq_true rfl) (fun _ => rfl) (Ext.refl _ _) hR (Nat.le_refl _) va_S.rf hl (fun q hq => by
      rcases List.mem_cons.mp hq with rfl | hq
      · trivial
      · cases hq) (fun v hv => by cases hv)
  have hM : mL M_L_law ≠ 0 := by decide
  simp only [cy_Fi, hM, if_false] at K
  exact K
