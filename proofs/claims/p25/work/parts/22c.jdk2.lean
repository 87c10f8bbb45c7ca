/-! ===== own: the JDK's add, at the level of the machine: the heap H is pinned, what changes is said of the heap behind ===== -/
section JDK2
variable {g : GT} {p : Program} {e : Env} {R : Room} {s : State} {m : MethodId} {args : Array Value} {below : List Frame} {meth : Method} {c : Code} {H : Heap} {locs : List Loc} {cells slots : Nat} {Q : State → Prop} {M : MT}
/-- what a walk at the level of the machine stands in -/
def JE (g : GT) (M : MT) (p : Program) (s : State) (m : MethodId) (meth : Method) (c : Code) : Prop :=
  p.tables.exec = Jvm.exec ∧ c.code = mC M ∧ c.maxLocals = mN M ∧ meth.sig.returnType = mR M ∧ s.vm.findClass (mO M) = some m.cls ∧ meth.locks = false ∧ (cy_s g).WarmedH s.vm
def JP (g : GT) (H : Heap) : State → Prop := fun U => U.heap = H ∧ (cy_s g).WarmedH U.vm
def jq (P : Option Value → Heap → Prop) : Array Value → State → Outcome → State → Prop := fun _ _ o t => ∃ r, o = .returned r ∧ P r t.heap
abbrev jR (d bc bs : Nat) : Room := { frames := d, cells := bc, slots := bs, locals := 64 * d }
/-- a row of references -/
def JR (g : GT) (r len : Nat) (f : Nat → Option Nat) (H : Heap) : Prop := va_at (cy_D g) vwCl (r, .inl (cy_cA g 4, len, .inr (.inr (.inr (.inr f))))) H
/-- a list: modCount, elementData, size -/
def JL (g : GT) (a0 : Nat) (mc : Int32) (r n : Nat) (H : Heap) : Prop := va_at (cy_D g) vwCl (a0, .inr (0, [.int mc, .ref r, .int (nI n)])) H
/-- what has changed: cells of X, and new ones -/
def JX (H H1 : Heap) (X : Nat → Prop) : Prop := H.size ≤ H1.size ∧ ∀ z, z < H.size → ¬ X z → H1[z]? = H[z]?
def JO (g : GT) (y : Nat) (H : Heap) : Prop := ∃ (ci : Nat) (fs : List Value), (ci = 1 ∨ ci = 8) ∧ va_at (cy_D g) vwCl (y, .inr (ci, fs)) H
theorem jb {d bc bs : Nat} {av : List Value} {P : Option Value → Heap → Prop} (hO : (mY M).cls = mO M) (hH : mH M = []) (hp : plainName (mY M).cls = true) (hn : (lg_sl av).length ≤ mN M)
    (k : ∀ (p : Program) (e : Env) (s : State) (m : MethodId) (args : Array Value) (below : List Frame) (meth : Method) (c : Code) (ls : Array Slot), JE g M p s m meth c → s.heap = H → lv_has ls (mN M) (lv_args 0 av) → W p (cy_l g) e (jR d bc bs) s m args below meth c H [] 0 0 (MQ below (jq P) args s bc bs (cy_A g)) (F0 m 0 ls [])) :
    Met (cy_l g) (mY M) [cy_word M] (jR d bc bs) (va_Pc av (JP g H)) (jq P) bc bs (cy_A g) := by
  have hw : cy_word M = .code (mY M) (mC M) (mN M) (mR M) := by unfold cy_word; rw [hH]
  rw [hw]
  refine Met.ofW (cc := mC M) (maxL := mN M) (ret := mR M) hp rfl ?_
  intro p e s m args below meth c s₁ B hml hv
  obtain ⟨rfl, hz, hW⟩ := hv
  have hl := lv_entry av (n := mN M) hn
  rw [lg_entry_eq]
  generalize ((lg_sl av ++ List.replicate (mN M - (lg_sl av).length) Slot.unset).toArray) = ls at hl ⊢
  have K := k p e s m av.toArray below meth c ls ⟨B.exec, B.bytes, hml, B.returns, by rw [← hO]; exact findClass_of_methodNamed B.named, B.notSynchronized, hW⟩ hz hl
  rw [← hz] at K
  exact K
theorem jr_S {M' : MT} {index n d d' bc bs pc : Nat} {As rest st : List Value} {ls : Array Slot} {P : Option Value → Heap → Prop} (hg : SF g) (hE : JE g M p s m meth c) (hM : Met (cy_l g) (mY M') [cy_word M'] (jR d' bc bs) (va_Pc As (JP g H)) (jq P) bc bs (cy_A g)) (hok : CallOk M M' index n) (hl : Cond.methodLink (mO M) index (mY M') ∈ lw_tbl) (hst : Cond.static (mY M') ∈ lw_tbl) (hdd : d' + 1 ≤ d) (hd : d ≤ R.frames) (hdl : 64 * d ≤ R.locals) (hn : As.length = n) (hls : ls.size = mN M) (hr : (rest.map fun v => v.category).sum ≤ 8) (hst9 : st = As.reverse ++ rest) (hdg : decode (mC M) pc = .ok (.invokestatic index, 3)) (hc : cells + bc ≤ R.cells) (hs : slots + bs ≤ R.slots)
    (kk : ∀ (v : Option Value) (H1 : Heap) (L : List Loc), P v H1 → (∀ q ∈ L, cy_A g q.base) → W p (cy_l g) e R s m args below meth c H1 (locs ++ L) (cells + bc) (slots + bs) Q (F0 m (pc + 3) ls (v.toList ++ rest))) :
    W p (cy_l g) e R s m args below meth c H locs cells slots Q (F0 m pc ls st) := by
  subst hst9
  have hW := hE.2.2.2.2.2.2
  intro T hT X
  obtain ⟨v, st₀, t, T', L, h0, X', hL, e1, e2, ⟨r, hv, hp⟩, st9⟩ := va_runS (nL := mN M) (Ts := []) ⟨hE.1, hE.2.1, hE.2.2.1, hE.2.2.2.2.1, fun w hw => by cases hw⟩ hM ⟨cy_callB hg hW hok hl hdd hd hdl, cy_wd hg hW hst (by rfl)⟩ ⟨fun a U f mk q => by obtain ⟨q1, q2, q3⟩ := q; exact ⟨q1, q2, q3⟩, fun U hU hWU => ⟨rfl, hU, State.WarmedH.trans hW hWU⟩⟩ rfl hn hls rfl (lv_room hr) hdg ⟨hc, hs⟩ T hT X
  cases hv
  obtain ⟨t2, a1, b1⟩ := kk v T'.heap L (by rw [e1]; exact hp) hL T' rfl X'
  exact ⟨t2, st9 t2 a1, b1⟩
theorem jr_V {M' : MT} {index n d d' bc bs pc b : Nat} {fs As rest st : List Value} {ls : Array Slot} {P : Option Value → Heap → Prop} (hg : SF g) (hE : JE g M p s m meth c) (hM : Met (cy_l g) (mY M') [cy_word M'] (jR d' bc bs) (va_Pc (.ref b :: As) (JP g H)) (jq P) bc bs (cy_A g)) (hrec : va_at (cy_D g) vwCl (b, .inr (0, fs)) H) (hok : CallOk M M' index n) (hl : Cond.methodLink (mO M) index (mY M') ∈ lw_tbl) (hin : Cond.instanceMethod (mY M') ∈ lw_tbl) (hsel : Cond.selects RJx4a65c (mY M') (mY M') ∈ lw_tbl) (hdd : d' + 1 ≤ d) (hd : d ≤ R.frames) (hdl : 64 * d ≤ R.locals) (hn : As.length = n) (hls : ls.size = mN M) (hr : (rest.map fun v => v.category).sum ≤ 8) (hst9 : st = As.reverse ++ .ref b :: rest) (hdg : decode (mC M) pc = .ok (.invokevirtual index, 3)) (hc : cells + bc ≤ R.cells) (hs : slots + bs ≤ R.slots)
    (kk : ∀ (v : Option Value) (H1 : Heap) (L : List Loc), P v H1 → (∀ q ∈ L, cy_A g q.base) → W p (cy_l g) e R s m args below meth c H1 (locs ++ L) (cells + bc) (slots + bs) Q (F0 m (pc + 3) ls (v.toList ++ rest))) :
    W p (cy_l g) e R s m args below meth c H locs cells slots Q (F0 m pc ls st) := by
  subst hst9
  have hW := hE.2.2.2.2.2.2
  intro T hT X
  obtain ⟨v, st₀, t, T', L, h0, X', hL, e1, e2, ⟨r, hv, hp⟩, st9⟩ := va_runV (nL := mN M) (Ts := []) (C := RJx4a65c) (b := b) (As := As) ⟨hE.1, hE.2.1, hE.2.2.1, hE.2.2.2.2.1, fun w hw => by cases hw⟩ hM ⟨cy_callB hg hW hok hl hdd hd hdl, cy_wd hg hW hin (by rfl), cy_wd hg hW hsel (by rfl)⟩ ⟨fun a U f mk q => by obtain ⟨q1, q2, q3⟩ := q; exact ⟨q1, q2, q3⟩, va_recv (cy_K hg hW) (cy_P1 hrec) (q0 := 0) (ci := 0) rfl rfl, fun U hU hWU => ⟨rfl, hU, State.WarmedH.trans hW hWU⟩⟩ rfl hn hls rfl (lv_room hr) hdg ⟨hc, hs⟩ T hT X
  cases hv
  obtain ⟨t2, a1, b1⟩ := kk v T'.heap L (by rw [e1]; exact hp) hL T' rfl X'
  exact ⟨t2, st9 t2 a1, b1⟩
/-- Object's rows: one class -/
theorem ja_cls (hg : SF g) (hW : (cy_s g).WarmedH s.vm) : s.vm.findClass "[Ljava/lang/Object;" = some (cy_cA g 4) := by
  obtain ⟨kA, comp, h1, h2, h3, h4⟩ := ((cy_K hg hW).2 4 (cy_cA g 4, .object "java/lang/Object") rfl).2
  exact h4
theorem ja_new {index n pc : Nat} {rest : List Value} {ls : Array Slot} (hg : SF g) (hE : JE g M p s m meth c) (hcl : Cond.classLink (mO M) index "java/lang/Object" ∈ lw_tbl) (hdg : decode (mC M) pc = .ok (.anewarray index, 3)) (hn : n ≤ 2000) (hc : cells + 1 ≤ R.cells) (hs : slots + n ≤ R.slots)
    (kk : ∀ H1 : Heap, JR g H.size n (fun _ => none) H1 → H1.size = H.size + 1 → (∀ z, z < H.size → H1[z]? = H[z]?) → W p (cy_l g) e R s m args below meth c H1 locs (cells + 1) (slots + n) Q (F0 m (pc + 3) ls (.ref H.size :: rest))) :
    W p (cy_l g) e R s m args below meth c H locs cells slots Q (F0 m pc ls (.int (nI n) :: rest)) := by
  have hW := hE.2.2.2.2.2.2
  have ecl : (nI n).toNatClampNeg = n := nI_clamp (by omega)
  refine W.anew hE.1 hE.2.1 hE.2.2.2.2.1 (cy_wd hg hW hcl (by rfl)) (va_AO.use (va_AO.moved hW.alike (va_AO.of (hg.2.1 _ (by decide +kernel))))) rfl hdg rfl (nI_pos (by omega)) (by rw [ecl]; omega) hc (by rw [ecl]; exact hs) fun cA kA comp f1 f2 f3 f4 => ?_
  have hcA : cA = cy_cA g 4 := Option.some.inj (f1.symm.trans (ja_cls hg hW))
  subst hcA
  rw [ecl]
  refine kk _ ?_ (Array.size_push _) (fun z hz => by rw [Array.getElem?_push, if_neg (Nat.ne_of_lt hz)])
  show (H.push _)[H.size]? = some (arrV (cy_cA g 4) n (fun _ => .null))
  rw [Array.getElem?_push_size, ← arrV_new]
theorem ja_any (hg : SF g) (hW : (cy_s g).WarmedH s.vm) {y : Nat} (h : JO g y H) : va_Any "java/lang/Object" s H y := by
  obtain ⟨ci, fs, hci, h⟩ := h
  rcases hci with rfl | rfl
  · refine va_rAny (cy_K hg hW) (cy_P1 h) (q0 := 0) (ci := 1) (r := (RX0, TX0, 4)) rfl rfl (fun comp c0 h1 h2 => ?_)
    obtain ⟨c0', t1, f1, f2, f3⟩ := Cond.castable_spec (args := #[]) (cy_wd2 hg hW (w := Cond.castable RX0 "java/lang/Object") (by decide +kernel) (by rfl))
    cases h2.symm.trans f1
    cases h1.symm.trans f2
    exact f3
  · refine va_rAny (cy_K hg hW) (cy_P1 h) (q0 := 0) (ci := 8) (r := (RX7, TX7, 12)) rfl rfl (fun comp c0 h1 h2 => ?_)
    obtain ⟨c0', t1, f1, f2, f3⟩ := Cond.castable_spec (args := #[]) (cy_wd2 hg hW (w := Cond.castable RX7 "java/lang/Object") (by decide +kernel) (by rfl))
    cases h2.symm.trans f1
    cases h1.symm.trans f2
    exact f3
theorem ja_D2 {A : Nat → Prop} {x y : Nat × va_E} (h : x.1 ≠ y.1) (hx : A x.1) (hy : A y.1) : va_D A [x, y] := by
  refine ⟨fun i j p q hi hj hpq => ?_, fun k q hk => ?_⟩
  · match i, j, hi, hj with
    | 0, 0, _, _ => rfl
    | 1, 1, _, _ => rfl
    | 0, 1, hi, hj => cases hi; cases hj; exact absurd hpq h
    | 1, 0, hi, hj => cases hi; cases hj; exact absurd hpq.symm h
    | i + 2, _, hi, _ => simp at hi
    | _, j + 2, _, hj => simp at hj
  · match k, hk with
    | 0, hk => cases hk; exact hx
    | 1, hk => cases hk; exact hy
    | k + 2, hk => simp at hk
theorem ja_D1 {A : Nat → Prop} {x : Nat × va_E} (hx : A x.1) : va_D A [x] := by
  refine ⟨fun i j p q hi hj hpq => ?_, fun k q hk => ?_⟩
  · match i, j, hi, hj with
    | 0, 0, _, _ => rfl
    | i + 1, _, hi, _ => simp at hi
    | _, j + 1, _, hj => simp at hj
  · match k, hk with
    | 0, hk => cases hk; exact hx
    | k + 1, hk => simp at hk
theorem jd_newLen (hg : SF g) {d : Nat} (hd : 2 ≤ d) {x y z w : Int32} (hw : x + (if y < z then z else y) = w) (h0 : ¬ w ≤ 0) (h1 : ¬ 2147483639 < w) :
    Met (cy_l g) yJ8_newLength_cabcc [cy_word M_J8_newLength_cabcc] (jR d 0 0) (va_Pc [.int x, .int y, .int z] (JP g H)) (jq (fun r H1 => r = some (.int w) ∧ H1 = H)) 0 0 (cy_A g) := by
  refine jb (M := M_J8_newLength_cabcc) rfl rfl (by decide) (Nat.le_of_ble_eq_true rfl) ?_
  intro p e s m args below meth c ls hE hz hl
  have hl : lv_has ls 4 [(0, .int x), (1, .int y), (2, .int z)] := hl
  have hx := hE.1
  have hb : c.code = cJ8_newLength_cabcc := hE.2.1
  have hown : s.vm.findClass RJ8 = some m.cls := hE.2.2.2.2.1
  have hW := hE.2.2.2.2.2.2
  have hlocks : meth.locks = false := hE.2.2.2.2.2.1
  refine lv_iload_n hx hb dJ8_newLength_cabcc_0 rfl (lv_at hl 0 rfl) ?_
  refine lv_iload_n hx hb dJ8_newLength_cabcc_1 rfl (lv_at hl 1 rfl) ?_
  refine lv_iload_n hx hb dJ8_newLength_cabcc_2 rfl (lv_at hl 2 rfl) ?_
  refine va_mmax (own := RJ8) hx hb (by rw [hE.2.2.1]; exact hl.1.symm) hown (cy_wd hg hW (by decide +kernel) (by rfl)) (cy_wd hg hW (by decide +kernel) (by rfl)) (cy_wd hg hW (by decide +kernel) (by rfl)) (cy_wd hg hW (by decide +kernel) (by rfl)) (show 1 ≤ d by omega) (show _ ≤ 64 * d from Nat.le_trans (Nat.le_of_ble_eq_true rfl : _ ≤ 64) (by omega)) (Nat.zero_le _) (Nat.zero_le _) dJ8_newLength_cabcc_3 ?_
  refine lv_iadd hx hb dJ8_newLength_cabcc_6 ?_
  rw [hw]
  refine lv_istore_n (lv' := [(3, .int w), (0, .int x), (1, .int y), (2, .int z)]) hx hb dJ8_newLength_cabcc_7 rfl hl (by decide) rfl (fun ls hl => ?_)
  refine lv_iconst (v := 0) hx hb dJ8_newLength_cabcc_8 (by decide) ?_
  refine lv_iload_n hx hb dJ8_newLength_cabcc_9 rfl (lv_at hl 0 rfl) ?_
  refine lv_icmp_ge (tgt := 21) hx hb dJ8_newLength_cabcc_10 (by decide) (fun q => absurd q h0) (fun _ => ?_)
  refine lv_iload_n hx hb dJ8_newLength_cabcc_13 rfl (lv_at hl 0 rfl) ?_
  refine lv_ldc (v := 2147483639) hx hb hown (cy_wd hg hW (by decide +kernel) (by rfl)) dJ8_newLength_cabcc_14 ?_
  refine lv_icmp_gt (tgt := 21) hx hb dJ8_newLength_cabcc_16 (by decide) (fun q => absurd q h1) (fun _ => ?_)
  refine lv_iload_n hx hb dJ8_newLength_cabcc_19 rfl (lv_at hl 0 rfl) ?_
  exact W.iret hx hb hE.2.2.2.1 (fun t ht _ => ⟨_, rfl, rfl, ht⟩) (fun q hq => by cases hq) dJ8_newLength_cabcc_20 hlocks
theorem jd_copy3 (hg : SF g) {d : Nat} (hd : 2 ≤ d) {a n n' mi : Nat} {f : Nat → Option Nat} (hB : cy_B g ≤ a) (hz0 : cy_B g ≤ H.size) (hM : va_Mi "[Ljava/lang/Object;" mi (cy_s g)) (hrow : JR g a n f H) (hnn : n ≤ n') (hn' : n' ≤ 45) (hel : ∀ j y, j < n → f j = some y → JO g y H) :
    Met (cy_l g) yJ7_copyOf_6403c [cy_word M_J7_copyOf_6403c] (jR d 1 45) (va_Pc [.ref a, .int (nI n'), .ref mi] (JP g H)) (jq (fun r H1 => r = some (.ref H.size) ∧ JX H H1 (fun _ => False) ∧ JR g H.size n' (fun j => if j < n then f j else none) H1)) 1 45 (cy_A g) := by
  refine jb (M := M_J7_copyOf_6403c) rfl rfl (by decide) (Nat.le_of_ble_eq_true rfl) ?_
  intro p e s m args below meth c ls hE hz hl
  have hl : lv_has ls 4 [(0, .ref a), (1, .int (nI n')), (2, .ref mi)] := hl
  have hx := hE.1
  have hb : c.code = cJ7_copyOf_6403c := hE.2.1
  have hown : s.vm.findClass RJ7 = some m.cls := hE.2.2.2.2.1
  have hW := hE.2.2.2.2.2.2
  have hlocks : meth.locks = false := hE.2.2.2.2.2.1
  have hK := cy_K hg hW
  have halt : a < H.size := va_at.lt hrow
  refine lv_aload_n hx hb dJ7_copyOf_6403c_0 rfl (lv_at hl 2 rfl) ?_
  refine va_ldcM (C := "[Ljava/lang/Object;") hx hb hown (cy_wd hg hW (by decide +kernel) (by rfl)) (va_Mi.moved hW.alike hM) dJ7_copyOf_6403c_1 ?_
  refine lv_acmp_ne (rx := some mi) (ry := some mi) (rest := []) (tgt := 13) hx hb dJ7_copyOf_6403c_3 (by decide) (fun q => absurd rfl q) (fun _ => ?_)
  refine lv_iload_n hx hb dJ7_copyOf_6403c_6 rfl (lv_at hl 1 rfl) ?_
  refine ja_new (M := M_J7_copyOf_6403c) (n := n') hg hE (by decide +kernel) dJ7_copyOf_6403c_7 (by omega) (Nat.le_refl 1) (show 0 + n' ≤ 45 by omega) (fun H1 r1 z1 o1 => ?_)
  refine lv_goto (tgt := 24) hx hb dJ7_copyOf_6403c_10 (by decide) ?_
  refine lv_astore_n (lv' := [(3, .ref H.size), (0, .ref a), (1, .int (nI n')), (2, .ref mi)]) hx hb dJ7_copyOf_6403c_24 rfl hl (by decide) rfl (fun ls hl => ?_)
  have hrow1 : JR g a n f H1 := va_at.kept hrow (o1 a halt)
  refine lv_aload_n hx hb dJ7_copyOf_6403c_25 rfl (lv_at hl 1 rfl) ?_
  refine lv_iconst (v := 0) hx hb dJ7_copyOf_6403c_26 (by decide) ?_
  refine lv_aload_n hx hb dJ7_copyOf_6403c_27 rfl (lv_at hl 0 rfl) ?_
  refine lv_iconst (v := 0) hx hb dJ7_copyOf_6403c_28 (by decide) ?_
  refine lv_aload_n hx hb dJ7_copyOf_6403c_29 rfl (lv_at hl 1 rfl) ?_
  refine va_alen (v := nI n) hx hb hK (cy_P1 hrow1) 0 4 rfl rfl rfl dJ7_copyOf_6403c_30 ?_
  refine lv_iload_n hx hb dJ7_copyOf_6403c_31 rfl (lv_at hl 2 rfl) ?_
  refine va_mmin (own := RJ7) hx hb (by rw [hE.2.2.1]; exact hl.1.symm) hown (cy_wd hg hW (by decide +kernel) (by rfl)) (cy_wd hg hW (by decide +kernel) (by rfl)) (cy_wd hg hW (by decide +kernel) (by rfl)) (cy_wd hg hW (by decide +kernel) (by rfl)) (show 1 ≤ d by omega) (show _ ≤ 64 * d from Nat.le_trans (Nat.le_of_ble_eq_true rfl : _ ≤ 64) (by omega)) (Nat.le_refl 1) (show 0 + n' ≤ 45 by omega) dJ7_copyOf_6403c_32 ?_
  rw [if_neg (nI_nlt hnn (by omega))]
  have ecl : (nI n).toNatClampNeg = n := nI_clamp (by omega)
  have hP1 : va_P (cy_D g) vwCl [(a, .inl (cy_cA g 4, n, .inr (.inr (.inr (.inr f))))), (H.size, .inl (cy_cA g 4, n', .inr (.inr (.inr (.inr (fun _ => none))))))] H1 := va_P.app (cy_P1 hrow1) (cy_P1 r1)
  have hD1 : va_D (fun z => z = a ∨ H.size ≤ z) [(a, (.inl (cy_cA g 4, n, .inr (.inr (.inr (.inr f)))) : va_E)), (H.size, .inl (cy_cA g 4, n', .inr (.inr (.inr (.inr (fun _ => none))))))] := ja_D2 (Nat.ne_of_lt halt) (Or.inl rfl) (Or.inr (Nat.le_refl _))
  have hS1 : va_S (fun z => z = a ∨ H.size ≤ z) H H1 [] := ⟨by omega, fun q h1 _ => o1 q h1, fun q hq => by cases hq⟩
  refine va_copyM hx hb (by rw [hE.2.2.1]; exact hl.1.symm) hown (cy_wd hg hW (by decide +kernel) (by rfl)) (cy_wd hg hW (by decide +kernel) (by rfl)) (cy_wd hg hW (by decide +kernel) (by rfl)) (cy_wd hg hW (by decide +kernel) (by rfl)) hK hP1 hD1 hS1 0 1 4 4 (E0 := "java/lang/Object") (E1 := "java/lang/Object") rfl rfl rfl rfl (by decide) (by decide) (nI_pos (by omega)) (by rw [ecl]; show 0 + n ≤ n; omega) (by rw [ecl]; show 0 + n ≤ n'; omega) (fun i hi y hy => ?_) (show 1 ≤ d by omega) (show _ ≤ 64 * d from Nat.le_trans (Nat.le_of_ble_eq_true rfl : _ ≤ 64) (by omega)) dJ7_copyOf_6403c_35 (fun H2 locs2 hP2 hD2 hS2 => ?_)
  · rw [ecl] at hi
    have hy' : f i = some y := by
      have e9 : (0 : Int32).toNatClampNeg + i = i := Nat.zero_add i
      rw [e9] at hy
      exact hy
    obtain ⟨ci, fs, q1, q2⟩ := hel i y hi hy'
    exact ja_any hg hW ⟨ci, fs, q1, va_at.kept q2 (o1 y (va_at.lt q2))⟩
  · refine lv_aload_n hx hb dJ7_copyOf_6403c_38 rfl (lv_at hl 0 rfl) ?_
    refine W.widen (k := 1) (n := 45) (Nat.le_refl 1) (by omega) ?_
    have c1 : JX H H2 (fun _ => False) := by
      refine ⟨hS2.1, fun z hz9 _ => ?_⟩
      by_cases q : z = a
      · subst q
        have h1 : H2[z]? = some (vp_cell (cy_cA g 4) (n, .inr (.inr (.inr (.inr f))))) := hP2 0 _ rfl
        have h2 : H[z]? = some (vp_cell (cy_cA g 4) (n, .inr (.inr (.inr (.inr f))))) := hrow
        rw [h1, h2]
      · exact hS2.2.1 z hz9 (fun w => by rcases w with w | w; exact q w; omega)
    have c2 : JR g H.size n' (fun j => if j < n then f j else none) H2 := by
      have h1 : va_at (cy_D g) vwCl (H.size, .inl (cy_cA g 4, n', .inr (.inr (.inr (.inr (va_cpy f (fun _ => none) (0 : Int32).toNatClampNeg (0 : Int32).toNatClampNeg (nI n).toNatClampNeg)))))) H2 := hP2 1 _ rfl
      have e9 : va_cpy f (fun _ => none) (0 : Int32).toNatClampNeg (0 : Int32).toNatClampNeg (nI n).toNatClampNeg = fun j => if j < n then f j else none := by
        rw [ecl]
        funext j
        show (if 0 ≤ j ∧ j < 0 + n then f (0 + (j - 0)) else none) = _
        by_cases q : j < n
        · rw [if_pos ⟨Nat.zero_le _, by omega⟩, if_pos q, show 0 + (j - 0) = j by omega]
        · rw [if_neg (fun w => q (by omega)), if_neg q]
      rw [e9] at h1
      exact h1
    have c3 : ∀ q ∈ locs2, cy_A g q.base := fun q hq => by
      rcases hS2.2.2 q hq with h | h
      · show cy_B g ≤ q.base
        rw [h]; exact hB
      · show cy_B g ≤ q.base
        omega
    exact W.aret hx hb hE.2.2.2.1 (Or.inr ⟨_, rfl⟩) (Or.inr ⟨_, rfl⟩) (fun t ht _ => ⟨_, rfl, rfl, by rw [ht]; exact c1, by rw [ht]; exact c2⟩) c3 dJ7_copyOf_6403c_39 hlocks
theorem ja_mi (hg : SF g) : ∃ mi, va_Mi "[Ljava/lang/Object;" mi (cy_s g) :=
  va_Mi.of (flat_of_before _ hg.2.2.2.2.2.2.2.2.2.1 (.isRef (.mirror "[Ljava/lang/Object;")) (by decide +kernel))
theorem jd_copy2 (hg : SF g) {d : Nat} (hd : 4 ≤ d) {a n n' : Nat} {f : Nat → Option Nat} (hB : cy_B g ≤ a) (hz0 : cy_B g ≤ H.size) (hrow : JR g a n f H) (hnn : n ≤ n') (hn' : n' ≤ 45) (hel : ∀ j y, j < n → f j = some y → JO g y H) :
    Met (cy_l g) yJ7_copyOf_1904c [cy_word M_J7_copyOf_1904c] (jR d 1 45) (va_Pc [.ref a, .int (nI n')] (JP g H)) (jq (fun r H1 => r = some (.ref H.size) ∧ JX H H1 (fun _ => False) ∧ JR g H.size n' (fun j => if j < n then f j else none) H1)) 1 45 (cy_A g) := by
  obtain ⟨mi, hM⟩ := ja_mi hg
  refine jb (M := M_J7_copyOf_1904c) rfl rfl (by decide) (Nat.le_of_ble_eq_true rfl) ?_
  intro p e s m args below meth c ls hE hz hl
  have hl : lv_has ls 2 [(0, .ref a), (1, .int (nI n'))] := hl
  have hx := hE.1
  have hb : c.code = cJ7_copyOf_1904c := hE.2.1
  have hown : s.vm.findClass RJ7 = some m.cls := hE.2.2.2.2.1
  have hW := hE.2.2.2.2.2.2
  have hlocks : meth.locks = false := hE.2.2.2.2.2.1
  refine lv_aload_n hx hb dJ7_copyOf_1904c_0 rfl (lv_at hl 0 rfl) ?_
  refine lv_iload_n hx hb dJ7_copyOf_1904c_1 rfl (lv_at hl 1 rfl) ?_
  refine lv_aload_n hx hb dJ7_copyOf_1904c_2 rfl (lv_at hl 0 rfl) ?_
  refine va_getC (C := "[Ljava/lang/Object;") hx hb (by rw [hE.2.2.1]; exact hl.1.symm) hown (cy_wd2 hg hW (by decide +kernel) (by rfl)) (cy_wd2 hg hW (by decide +kernel) (by rfl)) (cy_wd2 hg hW (by decide +kernel) (by rfl)) (cy_wd2 hg hW (by decide +kernel) (by rfl)) (cy_wd2 hg hW (by decide +kernel) (by rfl)) (va_Mi.moved hW.alike hM) ⟨_, hrow, rfl, ja_cls hg hW⟩ (show 1 ≤ d by omega) (show _ ≤ 64 * d from Nat.le_trans (Nat.le_of_ble_eq_true rfl : _ ≤ 64) (by omega)) dJ7_copyOf_1904c_3 ?_
  refine jr_S (M := M_J7_copyOf_1904c) (M' := M_J7_copyOf_6403c) (d := d) (d' := d - 1) (As := [.ref a, .int (nI n'), .ref mi]) (rest := []) hg hE (jd_copy3 hg (by omega) hB hz0 hM hrow hnn hn' hel) (ok_J7_copyOf_6403c M_J7_copyOf_1904c 300) (by decide +kernel) (by decide +kernel) (by omega) (Nat.le_refl _) (Nat.le_refl _) rfl hl.1 (Nat.le_of_ble_eq_true rfl) rfl dJ7_copyOf_1904c_6 (Nat.le_of_ble_eq_true rfl) (Nat.le_of_ble_eq_true rfl) (fun v H1 L hv hL => ?_)
  obtain ⟨rfl, h1, h2⟩ := hv
  exact W.aret hx hb hE.2.2.2.1 (Or.inr ⟨_, rfl⟩) (Or.inr ⟨_, rfl⟩) (fun t ht _ => ⟨_, rfl, rfl, by rw [ht]; exact h1, by rw [ht]; exact h2⟩) (fun q hq => hL q hq) dJ7_copyOf_1904c_9 hlocks
end JDK2
