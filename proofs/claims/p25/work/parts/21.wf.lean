/-! ===== own: what the class's and the reference's objects hold on to; places by their number ===== -/
def cw_f1 : List Nat := [200, 201, 202, 203, 400, 401, 402, 600, 601, 602, 700, 900, 901, 902, 903, 904]
def cw_f2 : List Nat := [804, 805, 806, 807, 808, 809]
/-- a chain of rides, of trips that there are -/
def Chn (fr : Nat → Nat → Option Nat) (n : Nat) : Option Nat → List Nat → Prop
  | o, [] => o = none
  | o, r :: R => o = some r ∧ (∃ t, fr 500 r = some t ∧ t < n) ∧ Chn fr n (fr 504 r) R
/-- the rides behind o, five at most -/
def chs (fr : Nat → Nat → Option Nat) : Nat → Option Nat → List Nat
  | 0, _ => []
  | _, none => []
  | n + 1, some r => r :: chs fr n (fr 504 r)
/-- a booking's journey; a journey's rides; a ride's trip -/
def bj (h : Hp) (b : Nat) : Nat := (xFR h 100 b).getD 0
def rls (h : Hp) (j : Nat) : List Nat := chs (xFR h) 5 (xFR h 301 j)
def tr (h : Hp) (r : Nat) : Nat := (xFR h 500 r).getD 0
/-- the class's objects hang together -/
def CW (h : Hp) : Prop :=
  (∀ f, f ∈ cw_f1 → xFR h f 0 = some 0) ∧ (∀ t, t < xLS h 11 → xLE h 11 t = t ∧ ∀ f, f ∈ cw_f2 → xFR h f t = some t) ∧ xLS h 11 ≤ 20 ∧ xLS h 12 ≤ 30 ∧ 0 < xCN h 15 ∧
  (∀ b, b < xLS h 12 → xLE h 12 b = b ∧ xFR h 100 b = some (bj h b) ∧ Chn (xFR h) (xLS h 11) (xFR h 301 (bj h b)) (rls h (bj h b)) ∧ bj h b < xCN h 3 ∧ ∀ r, r ∈ rls h (bj h b) → r < xCN h 5)
/-- how many there are: as many as the lists hold -/
def CN (h : Hp) : Prop := xCN h 8 = xLS h 11 ∧ (∀ s, 28 ≤ s → s ≤ 33 → xCN h s = xLS h 11) ∧ xCN h 1 = xLS h 12
/-- a trip has its own rows -/
def TOk (h : Hp) (t : Nat) : Prop := ∀ f, f ∈ cw_f2 → xFR h f t = some t
theorem CW.fr {h : Hp} (W : CW h) {f : Nat} (hf : f ∈ cw_f1) : xFR h f 0 = some 0 := W.1 f hf
theorem CW.tfr {h : Hp} (W : CW h) {t f : Nat} (ht : t < xLS h 11) (hf : f ∈ cw_f2) : xFR h f t = some t := (W.2.1 t ht).2 f hf
theorem CW.tle {h : Hp} (W : CW h) {t : Nat} (ht : t < xLS h 11) : xLE h 11 t = t := (W.2.1 t ht).1
theorem CW.t20 {h : Hp} (W : CW h) : xLS h 11 ≤ 20 := W.2.2.1
theorem CW.b30 {h : Hp} (W : CW h) : xLS h 12 ≤ 30 := W.2.2.2.1
theorem CW.c15 {h : Hp} (W : CW h) : 0 < xCN h 15 := W.2.2.2.2.1
theorem CW.ble {h : Hp} (W : CW h) {b : Nat} (hb : b < xLS h 12) : xLE h 12 b = b := (W.2.2.2.2.2 b hb).1
theorem CW.jb {h : Hp} (W : CW h) {b : Nat} (hb : b < xLS h 12) : xFR h 100 b = some (bj h b) := (W.2.2.2.2.2 b hb).2.1
theorem CW.jc {h : Hp} (W : CW h) {b : Nat} (hb : b < xLS h 12) : Chn (xFR h) (xLS h 11) (xFR h 301 (bj h b)) (rls h (bj h b)) := (W.2.2.2.2.2 b hb).2.2.1
theorem CW.j3 {h : Hp} (W : CW h) {b : Nat} (hb : b < xLS h 12) : bj h b < xCN h 3 := (W.2.2.2.2.2 b hb).2.2.2.1
theorem CW.r5 {h : Hp} (W : CW h) {b : Nat} (hb : b < xLS h 12) {r : Nat} (hr : r ∈ rls h (bj h b)) : r < xCN h 5 := (W.2.2.2.2.2 b hb).2.2.2.2 r hr
theorem CN.nA {h : Hp} (C : CN h) {s : Nat} (h1 : 28 ≤ s) (h2 : s ≤ 33) : xCN h s = xLS h 11 := C.2.1 s h1 h2
theorem CW.tok {h : Hp} (W : CW h) {t : Nat} (ht : t < xLS h 11) : TOk h t := (W.2.1 t ht).2
theorem Chn.un {h : Hp} {n r : Nat} {o : Option Nat} {R : List Nat} (hc : Chn (xFR h) n o (r :: R)) : o = some r ∧ xFR h 500 r = some (tr h r) ∧ tr h r < n ∧ Chn (xFR h) n (xFR h 504 r) R := by
  obtain ⟨a, ⟨t, e, lt⟩, b⟩ := hc
  have et : tr h r = t := by unfold tr; rw [e]; rfl
  exact ⟨a, by rw [et]; exact e, by rw [et]; exact lt, b⟩
/-- all but numbers is as it was -/
def SR (h h' : Hp) : Prop := h'.2.1 = h.2.1 ∧ h'.2.2.2 = h.2.2.2
theorem SR.rf {h : Hp} : SR h h := ⟨rfl, rfl⟩
theorem SR.trans {a b c : Hp} (x : SR a b) (y : SR b c) : SR a c := ⟨y.1.trans x.1, y.2.trans x.2⟩
theorem SR.eqv {h h' : Hp} (x : SR h h') : h' = (h'.1, h.2.1, h'.2.2.1, h.2.2.2) := by
  obtain ⟨a, b, c, d⟩ := h'
  obtain ⟨x1, x2⟩ := x
  simp only at x1 x2
  rw [x1, x2]
theorem CW.sr {h h' : Hp} (W : CW h) (x : SR h h') : CW h' := by rw [x.eqv]; exact W
theorem SR.lt {h h' : Hp} (x : SR h h') {s t : Nat} (ht : t < xLS h s) : t < xLS h' s := by rw [x.eqv]; exact ht
theorem SR.tl {h h' : Hp} (x : SR h h') {s t : Nat} (ht : t < xLS h' s) : t < xLS h s := by rw [x.eqv] at ht; exact ht
theorem SR.fr {h h' : Hp} (x : SR h h') {f i : Nat} {o : Option Nat} (e : xFR h f i = o) : xFR h' f i = o := by rw [x.eqv]; exact e
/-- the reference's rows hang on its one object -/
def MW (h : Hp) : Prop := ∀ f, 1000 ≤ f → f < 1044 → cy_ft f ≠ none → xFR h f 0 = some 0
theorem MW.sr {h h' : Hp} (W : MW h) (x : SR h h') : MW h' := by rw [x.eqv]; exact W
theorem MW.fr {h : Hp} (W : MW h) {f : Nat} (hf : 1000 ≤ f ∧ f < 1044 ∧ cy_ft f ≠ none) : xFR h f 0 = some 0 := W f hf.1 hf.2.1 hf.2.2
section PLACES
variable {g : GT} {M : MT} {d uc us pc : Nat} {L : List (Nat × AV)} {st : List AV} {h : Hp} {Φ : Rs → Hp → Prop}
theorem cy_in {x : Int32} {j n : Nat} (e : x = nI j) (hj : j < n) (hn : n ≤ 3584) : vp_in x n := by rw [e]; exact vp_in_nI hj (by omega)
theorem cy_cl {x : Int32} {j n : Nat} (e : x = nI j) (hj : j < n) (hn : n ≤ 3584) : x.toNatClampNeg = j := by rw [e]; exact nI_clamp (by omega)
theorem wx_ialdN {s i j n : Nat} {x : Int32} (hs : cy_kd s = 2 ∨ cy_kd s = 8) (hj : j < n ∧ n = cy_ln h s ∧ n ≤ 3584) (he : x = nI j) (hd : decode (mC M) pc = .ok (.iaload, 1))
    (kk : WP g M d uc us (pc + 1) L (.inl (.int (xAI h s i j)) :: st) h Φ) : WP g M d uc us pc L (.inl (.int x) :: .inr (s, some i) :: st) h Φ := by
  obtain ⟨h1, h2, h3⟩ := hj
  refine wx_iald hs (cy_in he (by rw [← h2]; exact h1) (by rw [← h2]; exact h3)) hd ?_
  rw [cy_cl he h1 h3]
  exact kk
theorem wx_zaldN {s i j n : Nat} {x : Int32} (hs : cy_kd s = 3) (hj : j < n ∧ n = cy_ln h s ∧ n ≤ 3584) (he : x = nI j) (hd : decode (mC M) pc = .ok (.baload, 1))
    (kk : WP g M d uc us (pc + 1) L (.inl (.int (xAI h s i j)) :: st) h Φ) : WP g M d uc us pc L (.inl (.int x) :: .inr (s, some i) :: st) h Φ := by
  obtain ⟨h1, h2, h3⟩ := hj
  refine wx_zald hs (cy_in he (by rw [← h2]; exact h1) (by rw [← h2]; exact h3)) hd ?_
  rw [cy_cl he h1 h3]
  exact kk
theorem wx_iastN {s i j n : Nat} {x v : Int32} (hs : cy_kd s = 2) (hj : j < n ∧ n = cy_ln h s ∧ n ≤ 3584) (he : x = nI j) (hd : decode (mC M) pc = .ok (.iastore, 1))
    (kk : WP g M d uc us (pc + 1) L st (sAI h s i j v) Φ) : WP g M d uc us pc L (.inl (.int v) :: .inl (.int x) :: .inr (s, some i) :: st) h Φ := by
  obtain ⟨h1, h2, h3⟩ := hj
  refine wx_iast hs (cy_in he (by rw [← h2]; exact h1) (by rw [← h2]; exact h3)) hd ?_
  rw [cy_cl he h1 h3]
  exact kk
theorem wx_zastN {s i j n : Nat} {x v : Int32} (hs : cy_kd s = 3) (hj : j < n ∧ n = cy_ln h s ∧ n ≤ 3584) (he : x = nI j) (hv : narrow .boolean (.int v) = .int v) (hd : decode (mC M) pc = .ok (.bastore, 1))
    (kk : WP g M d uc us (pc + 1) L st (sAI h s i j v) Φ) : WP g M d uc us pc L (.inl (.int v) :: .inl (.int x) :: .inr (s, some i) :: st) h Φ := by
  obtain ⟨h1, h2, h3⟩ := hj
  refine wx_zast hs (cy_in he (by rw [← h2]; exact h1) (by rw [← h2]; exact h3)) hv hd ?_
  rw [cy_cl he h1 h3]
  exact kk
theorem wx_ldcw {index : Nat} {v : Int32} (hw : Cond.constant (mO M) index v ∈ lw_tbl) (hd : decode (mC M) pc = .ok (.ldc_w index, 3)) (k : WP g M d uc us (pc + 3) L (.inl (.int v) :: st) h Φ) : WP g M d uc us pc L st h Φ := by
  intro hg p e R s m args below meth c H locs cells slots ls ad ad0 cn0 hE hd9 hdl hc hs hr hx hR hB hS hl hwL hwS
  exact lv_ldcw hE.1 hE.2.1 hE.2.2.2.2.1 (cy_wd hg hE.2.2.2.2.2.2.1 hw (by rfl)) hd (k hg p e R s m args below meth c H locs cells slots ls ad ad0 cn0 hE hd9 hdl hc hs hr hx hR hB hS hl hwL (cy_push cy_num hwS))
end PLACES
/-- Connectory.at and Connectory.put -/
def F_at (h : Hp) (s i : Nat) (x : Int32) : Int32 := if x < 0 then -1 else if Int32.ofNat (cy_ln h s) ≤ x then -1 else xAI h s i x.toNatClampNeg
def A_put (h : Hp) (s i : Nat) (x v : Int32) : Nat → Nat → Nat → Int32 := if x < 0 then h.2.2.1 else if Int32.ofNat (cy_ln h s) ≤ x then h.2.2.1 else up3 h.2.2.1 s i x.toNatClampNeg v
def H_put (h : Hp) (s i : Nat) (x v : Int32) : Hp := (h.1, h.2.1, A_put h s i x v, h.2.2.2)
theorem cy_inr {x : Int32} {n : Nat} (hn : n ≤ 3584) (h0 : ¬ x < 0) (h1 : ¬ Int32.ofNat n ≤ x) : vp_in x n := by
  obtain ⟨j, hj, rfl⟩ := nI_of h0
  have h2 : ¬ n ≤ j := fun q => h1 (nI_le q hj)
  exact vp_in_nI (by omega) (by omega)
theorem c_X8_at {g : GT} {d : Nat} (hd : 1 ≤ d) {h : Hp} {s i : Nat} (hs : cy_kd s = 2 ∨ cy_kd s = 8) (hl : cy_ln h s ≤ 3584) (x : Int32) : Ctr g M_X8_at d 0 0 [.inr (s, some i), .inl (.int x)] h (cy_det (.inl (some (.inl (.int (F_at h s i x))))) h) := by
  refine cy_body rfl rfl (by decide) (Nat.le_of_ble_eq_true rfl) ?_
  refine wp_run [(.iload_n 1, 1)] (pc' := 1) (L' := [(0, .inr (s, some i)), (1, .inl (.int x))]) (st' := [.inl (.int x)]) ⟨dX8_at_0, trivial⟩ rfl rfl ?_
  refine wx_if_lt (tgt := 16) dX8_at_1 (by decide) (fun h1 => ?_) (fun h1 => ?_)
  · refine wp_run [(.iconst (-1), 1)] (pc' := 17) (L' := [(0, .inr (s, some i)), (1, .inl (.int x))]) (st' := [.inl (.int (-1))]) ⟨dX8_at_16, trivial⟩ rfl rfl ?_
    exact wx_iret rfl rfl dX8_at_17 ⟨by unfold F_at; rw [if_pos h1], rfl⟩
  · refine wp_run [(.iload_n 1, 1), (.aload_n 0, 1)] (pc' := 6) (L' := [(0, .inr (s, some i)), (1, .inl (.int x))]) (st' := [.inr (s, some i), .inl (.int x)]) ⟨dX8_at_4, dX8_at_5, trivial⟩ rfl rfl ?_
    refine wx_alen (v := Int32.ofNat (cy_ln h s)) (by rcases hs with e | e; exact Or.inl e; exact Or.inr (Or.inr e)) rfl dX8_at_6 ?_
    refine wx_icmp_ge (tgt := 16) dX8_at_7 (by decide) (fun h2 => ?_) (fun h2 => ?_)
    · refine wp_run [(.iconst (-1), 1)] (pc' := 17) (L' := [(0, .inr (s, some i)), (1, .inl (.int x))]) (st' := [.inl (.int (-1))]) ⟨dX8_at_16, trivial⟩ rfl rfl ?_
      exact wx_iret rfl rfl dX8_at_17 ⟨by unfold F_at; rw [if_neg h1, if_pos h2], rfl⟩
    · refine wp_run [(.aload_n 0, 1), (.iload_n 1, 1)] (pc' := 12) (L' := [(0, .inr (s, some i)), (1, .inl (.int x))]) (st' := [.inl (.int x), .inr (s, some i)]) ⟨dX8_at_10, dX8_at_11, trivial⟩ rfl rfl ?_
      refine wx_iald hs (cy_inr hl h1 h2) dX8_at_12 ?_
      refine wx_goto (tgt := 17) dX8_at_13 (by decide) ?_
      exact wx_iret rfl rfl dX8_at_17 ⟨by unfold F_at; rw [if_neg h1, if_neg h2], rfl⟩
theorem c_X8_put {g : GT} {d : Nat} (hd : 1 ≤ d) {h : Hp} {s i : Nat} (hs : cy_kd s = 2) (hl : cy_ln h s ≤ 3584) (x v : Int32) : Ctr g M_X8_put d 0 0 [.inr (s, some i), .inl (.int x), .inl (.int v)] h (cy_det (.inl none) (H_put h s i x v)) := by
  refine cy_body rfl rfl (by decide) (Nat.le_of_ble_eq_true rfl) ?_
  refine wp_run [(.iload_n 1, 1)] (pc' := 1) (L' := [(0, .inr (s, some i)), (1, .inl (.int x)), (2, .inl (.int v))]) (st' := [.inl (.int x)]) ⟨dX8_put_0, trivial⟩ rfl rfl ?_
  refine wx_if_lt (tgt := 14) dX8_put_1 (by decide) (fun h1 => ?_) (fun h1 => ?_)
  · exact wx_vret rfl rfl dX8_put_14 ⟨rfl, by unfold H_put A_put; rw [if_pos h1]⟩
  · refine wp_run [(.iload_n 1, 1), (.aload_n 0, 1)] (pc' := 6) (L' := [(0, .inr (s, some i)), (1, .inl (.int x)), (2, .inl (.int v))]) (st' := [.inr (s, some i), .inl (.int x)]) ⟨dX8_put_4, dX8_put_5, trivial⟩ rfl rfl ?_
    refine wx_alen (v := Int32.ofNat (cy_ln h s)) (Or.inl hs) rfl dX8_put_6 ?_
    refine wx_icmp_ge (tgt := 14) dX8_put_7 (by decide) (fun h2 => ?_) (fun h2 => ?_)
    · exact wx_vret rfl rfl dX8_put_14 ⟨rfl, by unfold H_put A_put; rw [if_neg h1, if_pos h2]⟩
    · refine wp_run [(.aload_n 0, 1), (.iload_n 1, 1), (.iload_n 2, 1)] (pc' := 13) (L' := [(0, .inr (s, some i)), (1, .inl (.int x)), (2, .inl (.int v))]) (st' := [.inl (.int v), .inl (.int x), .inr (s, some i)]) ⟨dX8_put_10, dX8_put_11, dX8_put_12, trivial⟩ rfl rfl ?_
      refine wx_iast hs (cy_inr hl h1 h2) dX8_put_13 ?_
      exact wx_vret rfl rfl dX8_put_14 ⟨rfl, by unfold H_put A_put; rw [if_neg h1, if_neg h2]; rfl⟩
