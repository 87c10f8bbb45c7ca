/-! ===== own: new rows ===== -/
section NEWROWS
variable {g : GT} {M : MT} {d uc us pc : Nat} {L : List (Nat × AV)} {st : List AV} {h : Hp} {Φ : Rs → Hp → Prop}
theorem sNA_at (h : Hp) (s : Nat) : xAI (sNA h s) s (xCN h s) = fun _ => 0 := by
  funext j
  show (if s = s ∧ h.2.2.2.1 s = h.2.2.2.1 s then (0 : Int32) else _) = 0
  rw [if_pos ⟨rfl, rfl⟩]
theorem wx_newI {s n : Nat} {x : Int32} (hkd : cy_kd s = 2) (hs : s ≠ 16) (hn : cy_lens.getD s 0 = n) (hx0 : ¬ x < 0) (hxn : x.toNatClampNeg = n) (hsm : n ≤ 2000) (hd : decode (mC M) pc = .ok (.newarray .int, 2))
    (kk : WP g M d uc us (pc + 2) L (.inr (s, some (xCN h s)) :: st) (sNA h s) Φ) : WP g M d (uc + 1) (us + n) pc L (.inl (.int x) :: st) h Φ := by
  refine wx_newarr (at9 := .int) (k := 0) (a0 := (n, .inl fun _ => 0)) (Or.inl hkd) (fun q => by rcases q with rfl | rfl <;> cases hkd) hx0 hxn hsm arr_int (fun _ => rfl) (fun _ _ q => q) (fun ad => ?_) (fun _ => rfl) hd kk
  unfold cy_en
  rw [hkd]
  show Sum.inl (cy_cA g 0, cy_ln (sNA h s) s, Sum.inl (xAI (sNA h s) s (xCN h s))) = _
  rw [sNA_at]
  unfold cy_ln
  rw [if_neg hs, hn]
theorem wx_newZ {s n : Nat} {x : Int32} (hkd : cy_kd s = 3) (hs : s ≠ 16) (hn : cy_lens.getD s 0 = n) (hx0 : ¬ x < 0) (hxn : x.toNatClampNeg = n) (hsm : n ≤ 2000) (hd : decode (mC M) pc = .ok (.newarray .boolean, 2))
    (kk : WP g M d uc us (pc + 2) L (.inr (s, some (xCN h s)) :: st) (sNA h s) Φ) : WP g M d (uc + 1) (us + n) pc L (.inl (.int x) :: st) h Φ := by
  refine wx_newarr (at9 := .boolean) (k := 1) (a0 := (n, .inl fun _ => 0)) (Or.inr (Or.inl hkd)) (fun q => by rcases q with rfl | rfl <;> cases hkd) hx0 hxn hsm arr_boolean (fun _ => rfl) (fun _ _ q => q) (fun ad => ?_) (fun _ => rfl) hd kk
  unfold cy_en
  rw [hkd]
  show Sum.inl (cy_cA g 1, cy_ln (sNA h s) s, Sum.inl (xAI (sNA h s) s (xCN h s))) = _
  rw [sNA_at]
  unfold cy_ln
  rw [if_neg hs, hn]
theorem wx_newIC {s n i : Nat} {x : Int32} (hi : xCN h s = i) (hkd : cy_kd s = 2) (hs : s ≠ 16) (hn : cy_lens.getD s 0 = n) (hx0 : ¬ x < 0) (hxn : x.toNatClampNeg = n) (hsm : n ≤ 2000) (hd : decode (mC M) pc = .ok (.newarray .int, 2))
    (kk : WP g M d uc us (pc + 2) L (.inr (s, some i) :: st) (sNA h s) Φ) : WP g M d (uc + 1) (us + n) pc L (.inl (.int x) :: st) h Φ := wx_newI hkd hs hn hx0 hxn hsm hd (by rw [hi]; exact kk)
theorem wx_newZC {s n i : Nat} {x : Int32} (hi : xCN h s = i) (hkd : cy_kd s = 3) (hs : s ≠ 16) (hn : cy_lens.getD s 0 = n) (hx0 : ¬ x < 0) (hxn : x.toNatClampNeg = n) (hsm : n ≤ 2000) (hd : decode (mC M) pc = .ok (.newarray .boolean, 2))
    (kk : WP g M d uc us (pc + 2) L (.inr (s, some i) :: st) (sNA h s) Φ) : WP g M d (uc + 1) (us + n) pc L (.inl (.int x) :: st) h Φ := wx_newZ hkd hs hn hx0 hxn hsm hd (by rw [hi]; exact kk)
theorem wx_newC {s index i : Nat} {C : String} {T : u_T} {N : Nat} {ty : Nat → FieldType} (hi : xCN h s = i) (hC : ClsOk s C T N ty) (hcl : Cond.classLink (mO M) index C ∈ lw_tbl) (hin : Cond.instantiable C N ∈ lw_tbl) (hini : Cond.initialized C ∈ lw_tbl) (hd : decode (mC M) pc = .ok (.new index, 3))
    (kk : WP g M d uc us (pc + 3) L (.inr (s, some i) :: st) (sNO h s) Φ) : WP g M d (uc + 1) (us + N) pc L st h Φ := wx_new hC hcl hin hini hd (by rw [hi]; exact kk)
/-- a new list: new, dup, its constructor -/
theorem wx_newL {s index index2 : Nat} (hs : s = 11 ∨ s = 12) (h1 : xCN h s = 0) (h2 : xCN h (s + 2) = 0) (hdd : 5 ≤ d) (hr8 : (st.map cy_ct).sum ≤ 4) (hcl : Cond.classLink (mO M) index RJx4a65c ∈ lw_tbl) (hl : Cond.methodLink (mO M) index2 yJx4a65c_init_da8c8 ∈ lw_tbl)
    (hd : decode (mC M) pc = .ok (.new index, 3)) (hd1 : decode (mC M) (pc + 3) = .ok (.dup, 1)) (hd2 : decode (mC M) (pc + 4) = .ok (.invokespecial index2, 3))
    (kk : WP g M d uc us (pc + 7) L (.inr (s, some 0) :: st) (H_newL h s) Φ) : WP g M d (uc + 1) (us + 3) pc L st h Φ := jd_newL hs h1 h2 hdd hr8 hcl hl hd hd1 hd2 kk
theorem zst2 {a k : Nat} {v : Option Nat} (z : ∀ s, a ≤ s → xCN h s = 0) : ∀ s, a + 1 ≤ s → xCN (sFR (sNA h a) k 0 v) s = 0 := by
  intro s hs
  show up1 h.2.2.2.1 a (h.2.2.2.1 a + 1) s = 0
  unfold up1
  rw [if_neg (by omega)]
  exact z s (by omega)
end NEWROWS
