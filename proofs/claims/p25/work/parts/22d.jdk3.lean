/-! ===== own: the JDK's grow, and add(e, row, size) ===== -/
section JDK3
variable {g : GT} {p : Program} {e : Env} {R : Room} {s : State} {m : MethodId} {args : Array Value} {below : List Frame} {meth : Method} {c : Code} {H : Heap} {locs : List Loc} {cells slots : Nat} {Q : State → Prop} {M : MT}
/-- a list's field written -/
theorem ja_put {a0 k index pc : Nat} {fs rest : List Value} {v : Value} {ref : String} {ls : Array Slot} (hg : SF g) (hE : JE g M p s m meth c) (hk : k < 3) (hlink : Cond.fieldLink (mO M) index ref (TJx4a65c k).2.1 (TJx4a65c k).2.2.1 ∈ lw_tbl) (hsame : ∀ x, s.fieldFound? (TJx4a65c k).1 (TJx4a65c k).2.1 (TJx4a65c k).2.2.1 = some x → s.fieldFound? ref (TJx4a65c k).2.1 (TJx4a65c k).2.2.1 = some x) (hP : va_at (cy_D g) vwCl (a0, .inr (0, fs)) H) (hn : narrow (tyJx4a65c k) v = v) (hfit : fits (tyJx4a65c k) v = true) (hl : k < fs.length) (hdg : decode (mC M) pc = .ok (.putfield index, 3))
    (kk : ∀ H1 : Heap, va_at (cy_D g) vwCl (a0, .inr (0, fs.set k v)) H1 → (∀ q, q ≠ a0 → H1[q]? = H[q]?) → H1.size = H.size → ∀ j : Nat, W p (cy_l g) e R s m args below meth c H1 (locs ++ [⟨a0, j⟩]) cells slots Q (F0 m (pc + 3) ls rest)) :
    W p (cy_l g) e R s m args below meth c H locs cells slots Q (F0 m pc ls (v :: .ref a0 :: rest)) := by
  have hW := hE.2.2.2.2.2.2
  have hown := hE.2.2.2.2.1
  have hK := cy_K hg hW
  have c1 : vwCl[0]? = some (RJx4a65c, TJx4a65c, 3) := rfl
  have hts : ∀ w ∈ u_ws RJx4a65c TJx4a65c 3, w.before args s = true := cy_words hg hW jw_lay
  have hap := va_apart (own := mO M) hts (fun w hw => hw) tyJx4a65c tyJx4a65c_ok nmJx4a65c hK c1
  have hlk := cy_wd (args := args) hg hW hlink (by rfl)
  obtain ⟨r, h1, cell, q1, q2, q3, q4⟩ := hP
  have hr : r = (RJx4a65c, TJx4a65c, 3) := Option.some.inj (h1.symm.trans c1)
  subst hr
  obtain ⟨hS, hfc, kC, hkC, hkind⟩ := hK.1 0 _ c1
  obtain ⟨cf, kf, fi, f, hi, hsl⟩ := hS k hk
  have hlay := hts _ (u_in_lay hk)
  have hst := (u_facts hfc hkC (u_lays hts (fun w hw => hw) hk) hi).1
  have hfin : (TJx4a65c k).2.2.2 = false := by
    rcases (show k = 0 ∨ k = 1 ∨ k = 2 by omega) with rfl | rfl | rfl <;> rfl
  unfold u_lay at hlay
  rw [if_neg (by rw [hfin]; decide)] at hlay
  have h6 := u_store hfc hkC hkind hlay hi (tyJx4a65c_ok k hk) hn hfit
  refine W.putK hE.1 hE.2.1 (f := f) ⟨hown, hlk, ⟨_, _, _, hsame _ hi⟩, hst⟩ (by rw [q2]; exact h6) q1 q3 (by rw [hsl]; exact k2_hasslot (q4 k hk)) rfl rfl hdg fun H' e1 e2 e3 => ?_
  rw [hsl] at e1 ⊢
  exact kk H' ⟨_, c1, t_OB.to (V := updV (vp_V fs) k v) ⟨_, e1, q2, q3, t_set q4 hap hk v⟩ (fun j _ => vp_updV_set hl v j)⟩ e3 e2 _
/-- a list's field read -/
theorem ja_get {a0 k index pc : Nat} {fs rest : List Value} {v : Value} {ref : String} {ls : Array Slot} (hg : SF g) (hE : JE g M p s m meth c) (hk : k < 3) (hlink : Cond.fieldLink (mO M) index ref (TJx4a65c k).2.1 (TJx4a65c k).2.2.1 ∈ lw_tbl) (hsame : ∀ x, s.fieldFound? (TJx4a65c k).1 (TJx4a65c k).2.1 (TJx4a65c k).2.2.1 = some x → s.fieldFound? ref (TJx4a65c k).2.1 (TJx4a65c k).2.2.1 = some x) (hP : va_at (cy_D g) vwCl (a0, .inr (0, fs)) H) (hv : fs[k]? = some v) (hdg : decode (mC M) pc = .ok (.getfield index, 3))
    (kk : W p (cy_l g) e R s m args below meth c H locs cells slots Q (F0 m (pc + 3) ls (v :: rest))) :
    W p (cy_l g) e R s m args below meth c H locs cells slots Q (F0 m pc ls (.ref a0 :: rest)) :=
  va_get (C := RJx4a65c) (T := TJx4a65c) (N := 3) (ci := 0) hE.1 hE.2.1 (cy_words hg hE.2.2.2.2.2.2 jw_lay) (fun w hw => hw) hE.2.2.2.2.1 (cy_K hg hE.2.2.2.2.2.2) (cy_P1 hP) 0 rfl rfl k hk (cy_wd hg hE.2.2.2.2.2.2 hlink (by rfl)) hsame hv hdg kk
theorem jw_sa3 : Cond.selects RJx4a65c yJx4a65c_add_72be8 yJx4a65c_add_72be8 ∈ lw_tbl := List.mem_append_left _ (List.mem_of_getElem? (i := 27) (by decide +kernel))
theorem jw_sg0 : Cond.selects RJx4a65c yJx4a65c_grow_d5877 yJx4a65c_grow_d5877 ∈ lw_tbl := List.mem_append_left _ (List.mem_of_getElem? (i := 28) (by decide +kernel))
theorem jw_sgI : Cond.selects RJx4a65c yJx4a65c_grow_92f84 yJx4a65c_grow_92f84 ∈ lw_tbl := List.mem_append_left _ (List.mem_of_getElem? (i := 29) (by decide +kernel))
/-- an object written into a row -/
theorem ja_ast {r2 n cap y pc : Nat} {f1 : Nat → Option Nat} {rest : List Value} {ls : Array Slot} (hg : SF g) (hE : JE g M p s m meth c) (hr1 : JR g r2 cap f1 H) (hy : JO g y H) (hnc : n < cap) (hc : cap ≤ 1000) (hdg : decode (mC M) pc = .ok (.aastore, 1))
    (kk : ∀ H2 : Heap, JR g r2 cap (va_up f1 n (some y)) H2 → (∀ q, q ≠ r2 → H2[q]? = H[q]?) → H2.size = H.size → ∀ j : Nat, W p (cy_l g) e R s m args below meth c H2 (locs ++ [⟨r2, j⟩]) cells slots Q (F0 m (pc + 1) ls rest)) :
    W p (cy_l g) e R s m args below meth c H locs cells slots Q (F0 m pc ls (.ref y :: .int (nI n) :: .ref r2 :: rest)) := by
  have hW := hE.2.2.2.2.2.2
  have hK := cy_K hg hW
  have ecl : (nI n).toNatClampNeg = n := nI_clamp (by omega)
  obtain ⟨cellV, g1, g3, ⟨kC, hkC⟩, hasg⟩ := ja_any hg hW hy
  obtain ⟨kA, comp, k1, k2, k3, -⟩ := (hK.2 4 (cy_cA g 4, .object "java/lang/Object") rfl).2
  obtain ⟨kE, hkE, -⟩ := Vm.findClass_spec k3
  have hr0 : H[r2]? = some (vp_cell (cy_cA g 4) (cap, .inr (.inr (.inr (.inr f1))))) := hr1
  refine W.aast hE.1 hE.2.1 hr0 (fun q h => by cases h) (fun h => by cases h) k1 k2 rfl hkE ⟨nI_pos (by omega), by rw [ecl]; show _ < (arrV _ _ _).slots.size; rw [arrV_size]; exact hnc⟩ g1 (fun q h => by rw [h] at g3; cases g3) hkC (hasg _ k3) rfl rfl hdg fun H1 e1 z oq => ?_
  refine kk H1 ?_ oq z _
  show H1[r2]? = some (vp_cell _ _)
  rw [e1, ecl, vp_cell_q, vp_cell_q, arrV_store]
  congr 2
  funext q
  by_cases hq : q = n
  · subst hq
    simp [updV, va_up, va_rf]
  · simp [updV, va_up, hq]
/-- when grow is called: the JDK's empty row, or a full row -/
def JG (g : GT) (r n cap : Nat) (f1 : Nat → Option Nat) (H : Heap) : Prop :=
  (r = cy_ea g ∧ n = 0 ∧ cap = 10 ∧ f1 = fun _ => none) ∨ (∃ f : Nat → Option Nat, JR g r n f H ∧ cy_B g ≤ r ∧ 2 ≤ n ∧ n ≤ 30 ∧ cap = n + n / 2 ∧ f1 = (fun j => if j < n then f j else none) ∧ ∀ j y, j < n → f j = some y → JO g y H)
/-- what grow leaves -/
def JW (g : GT) (a0 : Nat) (mc : Int32) (n cap : Nat) (f1 : Nat → Option Nat) (H : Heap) : Option Value → Heap → Prop := fun v H1 => v = some (.ref H.size) ∧ JX H H1 (fun z => z = a0) ∧ JL g a0 mc H.size n H1 ∧ JR g H.size cap f1 H1
theorem ja_ea (hg : SF g) (hW : (cy_s g).WarmedH s.vm) (hold : ∀ q, q < cy_B g → H[q]? = (cy_s g).heap[q]?) : ∃ cell, H[cy_ea g]? = some cell ∧ s.isArrayOf cell (.object "java/lang/Object") ∧ cell.slots.size.toInt32 = 0 := by
  obtain ⟨cell, h1, h2, h3, h4, h5, h6, h7⟩ := va_T.moved hW.alike hg.2.2.2.2.2.2.2.2.2.2
  exact ⟨cell, by rw [hold _ (Nat.not_le.mp h7)]; exact h1, h2, h5⟩
theorem ja_dcee (hg : SF g) (hW : (cy_s g).WarmedH s.vm) (hold : ∀ q, q < cy_B g → H[q]? = (cy_s g).heap[q]?) : va_Z "java/util/ArrayList" "DEFAULTCAPACITY_EMPTY_ELEMENTDATA" "[Ljava/lang/Object;" (.ref (cy_ea g)) (cy_A g) s H := by
  refine va_Z.moved hW.alike ?_
  obtain ⟨cf, kf, fi, f, a, cell, h1, h2, h3, h4, h5, h6, h7, h8⟩ := hg.2.2.2.2.2.2.1
  exact ⟨cf, kf, fi, f, a, cell, h1, h2, h3, h4, by rw [hold a (Nat.not_le.mp h8)]; exact h5, h6, h7, h8⟩
theorem jd_growI (hg : SF g) {d : Nat} (hd : 6 ≤ d) {a0 n r cap : Nat} {mc : Int32} {f1 : Nat → Option Nat} (hB0 : cy_B g ≤ a0) (hz0 : cy_B g ≤ H.size) (hold : ∀ q, q < cy_B g → H[q]? = (cy_s g).heap[q]?) (hlist : JL g a0 mc r n H) (hcase : JG g r n cap f1 H) :
    Met (cy_l g) yJx4a65c_grow_92f84 [cy_word M_Jx4a65c_grow_92f84] (jR d 1 45) (va_Pc [.ref a0, .int (nI (n + 1))] (JP g H)) (jq (JW g a0 mc n cap f1 H)) 1 45 (cy_A g) := by
  refine jb (M := M_Jx4a65c_grow_92f84) rfl rfl (by decide) (Nat.le_of_ble_eq_true rfl) ?_
  intro p e s m args below meth c ls hE hz hl
  have hl : lv_has ls 4 [(0, .ref a0), (1, .int (nI (n + 1)))] := hl
  have hx := hE.1
  have hb : c.code = cJx4a65c_grow_92f84 := hE.2.1
  have hown : s.vm.findClass RJx4a65c = some m.cls := hE.2.2.2.2.1
  have hW := hE.2.2.2.2.2.2
  have hlocks : meth.locks = false := hE.2.2.2.2.2.1
  have hK := cy_K hg hW
  have halt : a0 < H.size := va_at.lt hlist
  have tail : ∀ (pc : Nat) (ls : Array Slot) (H1 : Heap) (locs1 : List Loc), decode cJx4a65c_grow_92f84 pc = .ok (.dup_x1, 1) → decode cJx4a65c_grow_92f84 (pc + 1) = .ok (.putfield 9, 3) → decode cJx4a65c_grow_92f84 (pc + 1 + 3) = .ok (.areturn, 1) → JX H H1 (fun _ => False) → JR g H.size cap f1 H1 → (∀ q ∈ locs1, cy_A g q.base) →
      W p (cy_l g) e (jR d 1 45) s m args below meth c H1 locs1 1 45 (MQ below (jq (JW g a0 mc n cap f1 H)) args s 1 45 (cy_A g)) (F0 m pc ls [.ref H.size, .ref a0]) := by
    intro pc ls H1 locs1 d1 d2 d3 hX hr1 hL1
    refine lv_dup_x1 hx hb d1 rfl rfl ?_
    have hl1 : JL g a0 mc r n H1 := va_at.kept hlist (hX.2 a0 halt id)
    refine ja_put (M := M_Jx4a65c_grow_92f84) (k := 1) hg hE (by decide) jw_9 (fun _ h => h) hl1 rfl rfl (Nat.le_of_ble_eq_true rfl) d2 (fun H2 a2 o2 z2 j => ?_)
    have c1 : JX H H2 (fun z => z = a0) := ⟨by rw [z2]; exact hX.1, fun z hz hn => by rw [o2 z hn]; exact hX.2 z hz id⟩
    have c2 : JL g a0 mc H.size n H2 := a2
    have c3 : JR g H.size cap f1 H2 := va_at.kept hr1 (o2 H.size (by show ¬ H.size = a0; omega))
    have c4 : ∀ q ∈ locs1 ++ [⟨a0, j⟩], cy_A g q.base := fun q hq => by
      rcases List.mem_append.mp hq with h | h
      · exact hL1 q h
      · rw [List.mem_singleton.mp h]; exact hB0
    exact W.aret hx hb hE.2.2.2.1 (Or.inr ⟨_, rfl⟩) (Or.inr ⟨_, rfl⟩) (fun t ht _ => ⟨_, rfl, rfl, by rw [ht]; exact c1, by rw [ht]; exact c2, by rw [ht]; exact c3⟩) c4 d3 hlocks
  refine lv_aload_n hx hb dJx4a65c_grow_92f84_0 rfl (lv_at hl 0 rfl) ?_
  refine ja_get (M := M_Jx4a65c_grow_92f84) (k := 1) (v := .ref r) hg hE (by decide) jw_9 (fun _ h => h) hlist rfl dJx4a65c_grow_92f84_1 ?_
  rcases hcase with ⟨rfl, rfl, rfl, rfl⟩ | ⟨f, hrow, hBr, h2, h30, rfl, rfl, hel⟩
  · obtain ⟨cell, e1, e2, e3⟩ := ja_ea hg hW hold
    refine W.alen (n := 0) hx hb e1 e2 e3 rfl rfl dJx4a65c_grow_92f84_4 ?_
    refine W.eq (g2 := F0 m 5 ls [.int 0]) rfl ?_
    refine lv_istore_n (lv' := [(2, .int 0), (0, .ref a0), (1, .int (nI 1))]) hx hb dJx4a65c_grow_92f84_5 rfl hl (by decide) rfl (fun ls hl => ?_)
    refine lv_iload_n hx hb dJx4a65c_grow_92f84_6 rfl (lv_at hl 0 rfl) ?_
    refine lv_if_gt (tgt := 20) hx hb dJx4a65c_grow_92f84_7 (by decide) (fun q => absurd q (by decide)) (fun _ => ?_)
    refine lv_aload_n hx hb dJx4a65c_grow_92f84_10 rfl (lv_at hl 1 rfl) ?_
    refine ja_get (M := M_Jx4a65c_grow_92f84) (k := 1) (v := .ref (cy_ea g)) hg hE (by decide) jw_9 (fun _ h => h) hlist rfl dJx4a65c_grow_92f84_11 ?_
    refine va_gets (own := RJx4a65c) (ref := "java/util/ArrayList") (A := cy_A g) (v := .ref (cy_ea g)) hx hb (by rw [hz]; exact ja_dcee hg hW hold) (by rw [hz]; exact va_S.rf) hown (cy_wd hg hW (by decide +kernel) (by rfl)) (fun _ h => h) dJx4a65c_grow_92f84_14 ?_
    refine lv_acmp_eq (rx := some (cy_ea g)) (ry := some (cy_ea g)) (rest := []) (tgt := 45) hx hb dJx4a65c_grow_92f84_17 (by decide) (fun _ => ?_) (fun q => absurd rfl q)
    refine lv_aload_n hx hb dJx4a65c_grow_92f84_45 rfl (lv_at hl 1 rfl) ?_
    refine lv_bipush (v := 10) hx hb dJx4a65c_grow_92f84_46 (by decide) ?_
    refine lv_iload_n hx hb dJx4a65c_grow_92f84_48 rfl (lv_at hl 2 rfl) ?_
    refine va_mmax (own := RJx4a65c) hx hb (by rw [hE.2.2.1]; exact hl.1.symm) hown (cy_wd hg hW (by decide +kernel) (by rfl)) (cy_wd hg hW (by decide +kernel) (by rfl)) (cy_wd hg hW (by decide +kernel) (by rfl)) (cy_wd hg hW (by decide +kernel) (by rfl)) (show 1 ≤ d by omega) (show _ ≤ 64 * d from Nat.le_trans (Nat.le_of_ble_eq_true rfl : _ ≤ 64) (by omega)) (Nat.zero_le _) (Nat.zero_le _) dJx4a65c_grow_92f84_49 ?_
    rw [show (if (10 : Int32) < nI 1 then nI 1 else 10) = nI 10 by decide]
    refine ja_new (M := M_Jx4a65c_grow_92f84) (n := 10) hg hE (by decide +kernel) dJx4a65c_grow_92f84_52 (by omega) (Nat.le_refl 1) (Nat.le_of_ble_eq_true rfl) (fun H1 r1 z1 o1 => ?_)
    refine W.widen (k := 1) (n := 45) (Nat.le_refl 1) (Nat.le_of_ble_eq_true rfl) ?_
    exact tail 55 ls H1 [] dJx4a65c_grow_92f84_55 dJx4a65c_grow_92f84_56 dJx4a65c_grow_92f84_59 ⟨by omega, fun z hz _ => o1 z hz⟩ r1 (fun q hq => by cases hq)
  · refine va_alen (v := nI n) hx hb hK (cy_P1 hrow) 0 4 rfl rfl rfl dJx4a65c_grow_92f84_4 ?_
    refine lv_istore_n (lv' := [(2, .int (nI n)), (0, .ref a0), (1, .int (nI (n + 1)))]) hx hb dJx4a65c_grow_92f84_5 rfl hl (by decide) rfl (fun ls hl => ?_)
    refine lv_iload_n hx hb dJx4a65c_grow_92f84_6 rfl (lv_at hl 0 rfl) ?_
    refine lv_if_gt (tgt := 20) hx hb dJx4a65c_grow_92f84_7 (by decide) (fun _ => ?_) (fun q => absurd (show nI 0 < nI n from nI_lt (by omega) (by omega)) q)
    refine lv_iload_n hx hb dJx4a65c_grow_92f84_20 rfl (lv_at hl 0 rfl) ?_
    refine lv_iload_n hx hb dJx4a65c_grow_92f84_21 rfl (lv_at hl 2 rfl) ?_
    refine lv_iload_n hx hb dJx4a65c_grow_92f84_22 rfl (lv_at hl 0 rfl) ?_
    refine lv_isub hx hb dJx4a65c_grow_92f84_23 ?_
    refine lv_iload_n hx hb dJx4a65c_grow_92f84_24 rfl (lv_at hl 0 rfl) ?_
    refine lv_iconst (v := 1) hx hb dJx4a65c_grow_92f84_25 (by decide) ?_
    refine lv_ishr hx hb dJx4a65c_grow_92f84_26 ?_
    have ew : nI n + (if nI (n + 1) - nI n < nI n >>> ((1 : Int32) &&& 31) then nI n >>> ((1 : Int32) &&& 31) else nI (n + 1) - nI n) = nI (n + n / 2) := by
      have es : nI n >>> ((1 : Int32) &&& 31) = nI (n / 2) := by
        have k := pk_shrN (n := n) (by omega) ((1 : Int32) &&& 31) 1 (by decide)
        rw [Nat.pow_one] at k
        exact k
      have ed : nI (n + 1) - nI n = nI 1 := by
        have k := pk_sub (a := n + 1) (b := n) (by omega)
        rw [Nat.add_sub_cancel_left] at k
        exact k
      rw [es, ed]
      by_cases q : 1 < n / 2
      · rw [if_pos (nI_lt q (by omega))]
        exact nI_add n (n / 2)
      · rw [if_neg (nI_nlt (by omega) (by decide)), show n / 2 = 1 by omega]
        exact nI_add n 1
    refine jr_S (M := M_Jx4a65c_grow_92f84) (M' := M_J8_newLength_cabcc) (d := d) (d' := d - 1) (As := [.int (nI n), .int (nI (n + 1) - nI n), .int (nI n >>> ((1 : Int32) &&& 31))]) (rest := []) hg hE (jd_newLen hg (by omega) ew (nI_nle (by omega) (by omega)) (show ¬ nI 2147483639 < nI (n + n / 2) from nI_nlt (by omega) (by decide))) (ok_J8_newLength_cabcc M_Jx4a65c_grow_92f84 73) (by decide +kernel) (by decide +kernel) (by omega) (Nat.le_refl _) (Nat.le_refl _) rfl hl.1 (Nat.le_of_ble_eq_true rfl) rfl dJx4a65c_grow_92f84_27 (Nat.le_of_ble_eq_true rfl) (Nat.le_of_ble_eq_true rfl) (fun v H1 L hv hL => ?_)
    obtain ⟨rfl, rfl⟩ := hv
    refine lv_istore_n (lv' := [(3, .int (nI (n + n / 2))), (2, .int (nI n)), (0, .ref a0), (1, .int (nI (n + 1)))]) hx hb dJx4a65c_grow_92f84_30 rfl hl (by decide) rfl (fun ls hl => ?_)
    refine lv_aload_n hx hb dJx4a65c_grow_92f84_31 rfl (lv_at hl 2 rfl) ?_
    refine lv_aload_n hx hb dJx4a65c_grow_92f84_32 rfl (lv_at hl 2 rfl) ?_
    refine ja_get (M := M_Jx4a65c_grow_92f84) (k := 1) (v := .ref r) hg hE (by decide) jw_9 (fun _ h => h) hlist rfl dJx4a65c_grow_92f84_33 ?_
    refine lv_iload_n hx hb dJx4a65c_grow_92f84_36 rfl (lv_at hl 0 rfl) ?_
    refine jr_S (M := M_Jx4a65c_grow_92f84) (M' := M_J7_copyOf_1904c) (d := d) (d' := d - 1) (As := [.ref r, .int (nI (n + n / 2))]) (rest := [.ref a0]) hg hE (jd_copy2 hg (by omega) hBr hz0 hrow (by omega) (by omega) hel) (ok_J7_copyOf_1904c M_Jx4a65c_grow_92f84 66) (by decide +kernel) (by decide +kernel) (by omega) (Nat.le_refl _) (Nat.le_refl _) rfl hl.1 (Nat.le_of_ble_eq_true rfl) rfl dJx4a65c_grow_92f84_37 (Nat.le_of_ble_eq_true rfl) (Nat.le_of_ble_eq_true rfl) (fun v H2 L2 hv hL2 => ?_)
    obtain ⟨rfl, x1, x2⟩ := hv
    exact tail 40 ls H2 (([] ++ L) ++ L2) dJx4a65c_grow_92f84_40 dJx4a65c_grow_92f84_41 dJx4a65c_grow_92f84_44 x1 x2 (fun q hq => by
      rcases List.mem_append.mp hq with h | h
      · exact hL q h
      · exact hL2 q h)
theorem jd_grow0 (hg : SF g) {d : Nat} (hd : 7 ≤ d) {a0 n r cap : Nat} {mc : Int32} {f1 : Nat → Option Nat} (hB0 : cy_B g ≤ a0) (hz0 : cy_B g ≤ H.size) (hold : ∀ q, q < cy_B g → H[q]? = (cy_s g).heap[q]?) (hlist : JL g a0 mc r n H) (hcase : JG g r n cap f1 H) :
    Met (cy_l g) yJx4a65c_grow_d5877 [cy_word M_Jx4a65c_grow_d5877] (jR d 1 45) (va_Pc [.ref a0] (JP g H)) (jq (JW g a0 mc n cap f1 H)) 1 45 (cy_A g) := by
  refine jb (M := M_Jx4a65c_grow_d5877) rfl rfl (by decide) (Nat.le_of_ble_eq_true rfl) ?_
  intro p e s m args below meth c ls hE hz hl
  have hl : lv_has ls 1 [(0, .ref a0)] := hl
  have hx := hE.1
  have hb : c.code = cJx4a65c_grow_d5877 := hE.2.1
  have hlocks : meth.locks = false := hE.2.2.2.2.2.1
  refine lv_aload_n hx hb dJx4a65c_grow_d5877_0 rfl (lv_at hl 0 rfl) ?_
  refine lv_aload_n hx hb dJx4a65c_grow_d5877_1 rfl (lv_at hl 0 rfl) ?_
  refine ja_get (M := M_Jx4a65c_grow_d5877) (k := 2) (v := .int (nI n)) hg hE (by decide) jw_48 (fun _ h => h) hlist rfl dJx4a65c_grow_d5877_2 ?_
  refine lv_iconst (v := 1) hx hb dJx4a65c_grow_d5877_5 (by decide) ?_
  refine lv_iadd hx hb dJx4a65c_grow_d5877_6 ?_
  rw [nI_1]
  refine jr_V (M := M_Jx4a65c_grow_d5877) (M' := M_Jx4a65c_grow_92f84) (d := d) (d' := d - 1) (b := a0) (As := [.int (nI (n + 1))]) (rest := []) hg hE (jd_growI hg (by omega) hB0 hz0 hold hlist hcase) hlist (ok_Jx4a65c_grow_92f84 M_Jx4a65c_grow_d5877 69) (by decide +kernel) (by decide +kernel) jw_sgI (by omega) (Nat.le_refl _) (Nat.le_refl _) rfl hl.1 (Nat.le_of_ble_eq_true rfl) rfl dJx4a65c_grow_d5877_7 (Nat.le_of_ble_eq_true rfl) (Nat.le_of_ble_eq_true rfl) (fun v H1 L hv hL => ?_)
  obtain ⟨rfl, x1, x2, x3⟩ := hv
  exact W.aret hx hb hE.2.2.2.1 (Or.inr ⟨_, rfl⟩) (Or.inr ⟨_, rfl⟩) (fun t ht _ => ⟨_, rfl, rfl, by rw [ht]; exact x1, by rw [ht]; exact x2, by rw [ht]; exact x3⟩) (fun q hq => hL q hq) dJx4a65c_grow_d5877_10 hlocks
/-- add(e, row, size): the row r2 of cap places, as it is to be written to -/
theorem jd_add3 (hg : SF g) {d : Nat} (hd : 8 ≤ d) {a0 n r cap y r2 : Nat} {mc : Int32} {f1 : Nat → Option Nat} (hB0 : cy_B g ≤ a0) (hz0 : cy_B g ≤ H.size) (hold : ∀ q, q < cy_B g → H[q]? = (cy_s g).heap[q]?) (hlist : JL g a0 mc r n H) (hy : JO g y H) (hya : y ≠ a0) (har : a0 ≠ r)
    (hcase : (JG g r n cap f1 H ∧ r2 = H.size) ∨ (JR g r cap f1 H ∧ r2 = r ∧ cy_B g ≤ r ∧ n < cap ∧ cap ≤ 1000)) :
    Met (cy_l g) yJx4a65c_add_72be8 [cy_word M_Jx4a65c_add_72be8] (jR d 1 45) (va_Pc [.ref a0, .ref y, .ref r, .int (nI n)] (JP g H)) (jq (fun v H1 => v = none ∧ JX H H1 (fun z => z = a0 ∨ (z = r ∧ cy_B g ≤ r)) ∧ JL g a0 mc r2 (n + 1) H1 ∧ JR g r2 cap (va_up f1 n (some y)) H1)) 1 45 (cy_A g) := by
  refine jb (M := M_Jx4a65c_add_72be8) rfl rfl (by decide) (Nat.le_of_ble_eq_true rfl) ?_
  intro p e s m args below meth c ls hE hz hl
  have hl : lv_has ls 4 [(0, .ref a0), (1, .ref y), (2, .ref r), (3, .int (nI n))] := hl
  have hx := hE.1
  have hb : c.code = cJx4a65c_add_72be8 := hE.2.1
  have hown : s.vm.findClass RJx4a65c = some m.cls := hE.2.2.2.2.1
  have hW := hE.2.2.2.2.2.2
  have hlocks : meth.locks = false := hE.2.2.2.2.2.1
  have hK := cy_K hg hW
  have halt : a0 < H.size := va_at.lt hlist
  have hylt : y < H.size := by
    obtain ⟨ci, fs, -, q⟩ := hy
    exact va_at.lt q
  have tail : ∀ (ls : Array Slot) (H1 : Heap) (locs1 : List Loc), lv_has ls 4 [(2, .ref r2), (0, .ref a0), (1, .ref y), (3, .int (nI n))] → JX H H1 (fun z => z = a0 ∨ (z = r ∧ cy_B g ≤ r)) → (∀ q ∈ locs1, cy_A g q.base) → JL g a0 mc r2 n H1 → JR g r2 cap f1 H1 → JO g y H1 → n < cap → cap ≤ 1000 → cy_B g ≤ r2 → a0 ≠ r2 → (r2 = r ∧ cy_B g ≤ r ∨ H.size ≤ r2) →
      W p (cy_l g) e (jR d 1 45) s m args below meth c H1 locs1 1 45 (MQ below (jq (fun v H1 => v = none ∧ JX H H1 (fun z => z = a0 ∨ (z = r ∧ cy_B g ≤ r)) ∧ JL g a0 mc r2 (n + 1) H1 ∧ JR g r2 cap (va_up f1 n (some y)) H1)) args s 1 45 (cy_A g)) (F0 m 11 ls []) := by
    intro ls H1 locs1 hl hX hL1 hl1 hr1 hy1 hnc hc1000 hBr har2 hr2
    have ecl : (nI n).toNatClampNeg = n := nI_clamp (by omega)
    refine lv_aload_n hx hb dJx4a65c_add_72be8_11 rfl (lv_at hl 0 rfl) ?_
    refine lv_iload_n hx hb dJx4a65c_add_72be8_12 rfl (lv_at hl 3 rfl) ?_
    refine lv_aload_n hx hb dJx4a65c_add_72be8_13 rfl (lv_at hl 2 rfl) ?_
    refine ja_ast (M := M_Jx4a65c_add_72be8) hg hE hr1 hy1 hnc hc1000 dJx4a65c_add_72be8_14 (fun H2 a2 o2 z2 j => ?_)
    refine lv_aload_n hx hb dJx4a65c_add_72be8_15 rfl (lv_at hl 1 rfl) ?_
    refine lv_iload_n hx hb dJx4a65c_add_72be8_16 rfl (lv_at hl 3 rfl) ?_
    refine lv_iconst (v := 1) hx hb dJx4a65c_add_72be8_17 (by decide) ?_
    refine lv_iadd hx hb dJx4a65c_add_72be8_18 ?_
    rw [nI_1]
    have hl2 : JL g a0 mc r2 n H2 := va_at.kept hl1 (o2 a0 har2)
    refine ja_put (M := M_Jx4a65c_add_72be8) (k := 2) hg hE (by decide) jw_48 (fun _ h => h) hl2 rfl rfl (Nat.le_of_ble_eq_true rfl) dJx4a65c_add_72be8_19 (fun H3 a3 o3 z3 j3 => ?_)
    have c1 : JX H H3 (fun z => z = a0 ∨ (z = r ∧ cy_B g ≤ r)) := ⟨by rw [z3, z2]; exact hX.1, fun z hz hn => by
      rw [o3 z (fun q => hn (Or.inl q)), o2 z (fun q => by
        rcases hr2 with w | w
        · exact hn (Or.inr ⟨q.trans w.1, w.2⟩)
        · rw [← q] at w; exact absurd hz (Nat.not_lt.mpr w))]
      exact hX.2 z hz hn⟩
    have c2 : JL g a0 mc r2 (n + 1) H3 := a3
    have c3 : JR g r2 cap (va_up f1 n (some y)) H3 := va_at.kept a2 (o3 r2 (Ne.symm har2))
    have c4 : ∀ q ∈ (locs1 ++ [⟨r2, j⟩]) ++ [⟨a0, j3⟩], cy_A g q.base := fun q hq => by
      rcases List.mem_append.mp hq with h | h
      · rcases List.mem_append.mp h with h | h
        · exact hL1 q h
        · rw [List.mem_singleton.mp h]; exact hBr
      · rw [List.mem_singleton.mp h]; exact hB0
    exact W.vret hx hb hE.2.2.2.1 (fun t ht _ => ⟨_, rfl, rfl, by rw [ht]; exact c1, by rw [ht]; exact c2, by rw [ht]; exact c3⟩) c4 dJx4a65c_add_72be8_22 hlocks
  refine lv_iload_n hx hb dJx4a65c_add_72be8_0 rfl (lv_at hl 3 rfl) ?_
  refine lv_aload_n hx hb dJx4a65c_add_72be8_1 rfl (lv_at hl 2 rfl) ?_
  rcases hcase with ⟨hG, rfl⟩ | ⟨hr, rfl, hBr, hnc, hc1000⟩
  · have hGG := hG
    have alen : ∀ {Q : State → Prop}, W p (cy_l g) e (jR d 1 45) s m args below meth c H [] 0 0 Q (F0 m 3 ls [.int (nI n), .int (nI n)]) → W p (cy_l g) e (jR d 1 45) s m args below meth c H [] 0 0 Q (F0 m 2 ls [.ref r, .int (nI n)]) := by
      intro Q kk
      rcases hG with ⟨rfl, rfl, -, -⟩ | ⟨f, hrow, -⟩
      · obtain ⟨cell, e1, e2, e3⟩ := ja_ea hg hW hold
        exact W.alen (n := 0) hx hb e1 e2 e3 rfl rfl dJx4a65c_add_72be8_2 kk
      · exact va_alen (v := nI n) hx hb hK (cy_P1 hrow) 0 4 rfl rfl rfl dJx4a65c_add_72be8_2 kk
    refine alen ?_
    refine lv_icmp_ne (tgt := 11) hx hb dJx4a65c_add_72be8_3 (by decide) (fun q => absurd rfl q) (fun _ => ?_)
    refine lv_aload_n hx hb dJx4a65c_add_72be8_6 rfl (lv_at hl 0 rfl) ?_
    refine jr_V (M := M_Jx4a65c_add_72be8) (M' := M_Jx4a65c_grow_d5877) (d := d) (d' := d - 1) (b := a0) (As := []) (rest := []) hg hE (jd_grow0 hg (by omega) hB0 hz0 hold hlist hGG) hlist (ok_Jx4a65c_grow_d5877 M_Jx4a65c_add_72be8 129) (by decide +kernel) (by decide +kernel) jw_sg0 (by omega) (Nat.le_refl _) (Nat.le_refl _) rfl hl.1 (Nat.le_of_ble_eq_true rfl) rfl dJx4a65c_add_72be8_7 (Nat.le_of_ble_eq_true rfl) (Nat.le_of_ble_eq_true rfl) (fun v H1 L hv hL => ?_)
    obtain ⟨rfl, x1, x2, x3⟩ := hv
    refine lv_astore_n (lv' := [(2, .ref H.size), (0, .ref a0), (1, .ref y), (3, .int (nI n))]) hx hb dJx4a65c_add_72be8_10 rfl hl (by decide) rfl (fun ls hl => ?_)
    have hcap : n < cap ∧ cap ≤ 1000 := by
      rcases hGG with ⟨-, h1, h2, -⟩ | ⟨f, -, -, h1, h2, h3, -⟩ <;> omega
    refine tail ls H1 ([] ++ L) hl ⟨x1.1, fun z hz hn => x1.2 z hz (fun q => hn (Or.inl q))⟩ (fun q hq => hL q hq) x2 x3 ?_ hcap.1 hcap.2 hz0 (Nat.ne_of_lt halt) (Or.inr (Nat.le_refl _))
    obtain ⟨ci, fs, q1, q2⟩ := hy
    exact ⟨ci, fs, q1, va_at.kept q2 (x1.2 y hylt hya)⟩
  · refine va_alen (v := nI cap) hx hb hK (cy_P1 hr) 0 4 rfl rfl rfl dJx4a65c_add_72be8_2 ?_
    refine lv_icmp_ne (tgt := 11) hx hb dJx4a65c_add_72be8_3 (by decide) (fun _ => ?_) (fun q => absurd (show nI n < nI cap from nI_lt hnc (by omega)) (by rw [q]; exact fun w => Int32.lt_irrefl w))
    refine W.widen (k := 1) (n := 45) (Nat.zero_le _) (Nat.zero_le _) ?_
    exact tail ls H [] (lv_sub hl [2, 0, 1, 3] rfl) ⟨Nat.le_refl _, fun z _ _ => rfl⟩ (fun q hq => by cases hq) hlist hr hy hnc hc1000 hBr har (Or.inl ⟨rfl, hBr⟩)
end JDK3
