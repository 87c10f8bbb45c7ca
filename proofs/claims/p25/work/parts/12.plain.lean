/-! ===== own: the plain instructions ===== -/
def lkL : List (Nat × AV) → Nat → Option AV
  | [], _ => none
  | (j, v) :: r, i => if j = i then some v else lkL r i
def st1 (L : List (Nat × AV)) (i : Nat) (v : AV) : List (Nat × AV) := (i, v) :: L.filter (fun q => !(q.1 == i) && !(q.1 + 1 == i && cy_ct q.2 == 2))
def st2 (L : List (Nat × AV)) (i : Nat) (v : AV) : List (Nat × AV) := (i, v) :: L.filter (fun q => !(q.1 == i) && (!(q.1 == i + 1) && !(q.1 + 1 == i && cy_ct q.2 == 2)))
theorem lkL_mem : ∀ {L : List (Nat × AV)} {i : Nat} {v : AV}, lkL L i = some v → (i, v) ∈ L := by
  intro L
  induction L with
  | nil => intro i v h; cases h
  | cons q r ih =>
    intro i v h
    obtain ⟨j, w⟩ := q
    unfold lkL at h
    split at h
    next e => cases h; rw [e]; exact List.mem_cons_self
    next e => exact List.mem_cons_of_mem _ (ih h)
theorem cy_lk {ad : Nat → Nat → Nat} {ls : Array Slot} {n : Nat} {L : List (Nat × AV)} {i : Nat} {v : AV} (hl : lv_has ls n (L.map (fun q => (q.1, cy_cv ad q.2)))) (h : lkL L i = some v) : ls[i]? = some (.val (cy_cv ad v)) :=
  hl.2.2 (i, cy_cv ad v) (List.mem_map.mpr ⟨(i, v), lkL_mem h, rfl⟩)
theorem st1_cv (ad : Nat → Nat → Nat) (L : List (Nat × AV)) (i : Nat) (v : AV) : (i, cy_cv ad v) :: (L.map (fun q => (q.1, cy_cv ad q.2))).filter (fun q => !(q.1 == i) && !(q.1 + 1 == i && q.2.category == 2)) = (st1 L i v).map (fun q => (q.1, cy_cv ad q.2)) := by
  unfold st1
  rw [List.map_cons, List.filter_map]
  congr 3
  funext q
  simp [Function.comp, cy_ct_cv]
theorem st2_cv (ad : Nat → Nat → Nat) (L : List (Nat × AV)) (i : Nat) (v : AV) : (i, cy_cv ad v) :: (L.map (fun q => (q.1, cy_cv ad q.2))).filter (fun q => !(q.1 == i) && (!(q.1 == i + 1) && !(q.1 + 1 == i && q.2.category == 2))) = (st2 L i v).map (fun q => (q.1, cy_cv ad q.2)) := by
  unfold st2
  rw [List.map_cons, List.filter_map]
  congr 3
  funext q
  simp [Function.comp, cy_ct_cv]
theorem st1_wf {cn : Nat → Nat} {L : List (Nat × AV)} {i : Nat} {v : AV} (hL : ∀ q ∈ L, cy_wf cn q.2) (hv : cy_wf cn v) : ∀ q ∈ st1 L i v, cy_wf cn q.2 := by
  intro q hq
  rcases List.mem_cons.mp hq with rfl | hq
  · exact hv
  · exact hL q (List.mem_filter.mp hq).1
theorem st2_wf {cn : Nat → Nat} {L : List (Nat × AV)} {i : Nat} {v : AV} (hL : ∀ q ∈ L, cy_wf cn q.2) (hv : cy_wf cn v) : ∀ q ∈ st2 L i v, cy_wf cn q.2 := by
  intro q hq
  rcases List.mem_cons.mp hq with rfl | hq
  · exact hv
  · exact hL q (List.mem_filter.mp hq).1
theorem cy_num {cn : Nat → Nat} {v : Value} : cy_wf cn (.inl v) := trivial
theorem cy_nul {cn : Nat → Nat} {s : Nat} (hs : s ≠ 13 ∧ s ≠ 14) : cy_wf cn (.inr (s, none)) := ⟨hs.1, hs.2, fun _ h => by cases h⟩
theorem cy_push {cn : Nat → Nat} {st : List AV} {v : AV} (hv : cy_wf cn v) (h : ∀ v ∈ st, cy_wf cn v) : ∀ w ∈ v :: st, cy_wf cn w := List.forall_mem_cons.mpr ⟨hv, h⟩
theorem cy_pop {cn : Nat → Nat} {st : List AV} {v : AV} (h : ∀ w ∈ v :: st, cy_wf cn w) : ∀ w ∈ st, cy_wf cn w := (List.forall_mem_cons.mp h).2
theorem cy_top {cn : Nat → Nat} {st : List AV} {v : AV} (h : ∀ w ∈ v :: st, cy_wf cn w) : cy_wf cn v := (List.forall_mem_cons.mp h).1
section PLAIN
variable {g : GT} {M : MT} {d uc us pc : Nat} {L : List (Nat × AV)} {st : List AV} {h : Hp} {Φ : Rs → Hp → Prop}
/-- a step that leaves the heap alone -/
theorem wp_step {pc' : Nat} {L' : List (Nat × AV)} {st' : List AV}
    (hwf : ∀ cn : Nat → Nat, (∀ q ∈ L, cy_wf cn q.2) → (∀ v ∈ st, cy_wf cn v) → (∀ q ∈ L', cy_wf cn q.2) ∧ (∀ v ∈ st', cy_wf cn v))
    (hstep : ∀ (p : Program) (l : Launch) (e : Env) (R : Room) (s : State) (m : MethodId) (args : Array Value) (below : List Frame) (meth : Method) (c : Code) (H : Heap) (locs : List Loc) (cells slots : Nat) (Q : State → Prop) (ad : Nat → Nat → Nat) (ls : Array Slot),
      p.tables.exec = Jvm.exec → c.code = mC M → lv_has ls (mN M) (L.map (fun q => (q.1, cy_cv ad q.2))) → (∀ ls' : Array Slot, lv_has ls' (mN M) (L'.map (fun q => (q.1, cy_cv ad q.2))) → W p l e R s m args below meth c H locs cells slots Q (F0 m pc' ls' (st'.map (cy_cv ad)))) → W p l e R s m args below meth c H locs cells slots Q (F0 m pc ls (st.map (cy_cv ad))))
    (k : WP g M d uc us pc' L' st' h Φ) : WP g M d uc us pc L st h Φ := by
  intro hg p e R s m args below meth c H locs cells slots ls ad ad0 cn0 hE hd hdl hc hs hr hx hR hB hS hl hwL hwS
  obtain ⟨w1, w2⟩ := hwf _ hwL hwS
  exact hstep p (cy_l g) e R s m args below meth c H locs cells slots _ ad ls hE.1 hE.2.1 hl (fun ls' hl' => k hg p e R s m args below meth c H locs cells slots ls' ad ad0 cn0 hE hd hdl hc hs hr hx hR hB hS hl' w1 w2)

theorem wx_iconst {n : Int} (hd : decode (mC M) pc = .ok (.iconst n, 1)) (k : WP g M d uc us (pc + 1) L (.inl (.int (Int32.ofInt n)) :: st) h Φ) : WP g M d uc us pc L st h Φ :=
  wp_step (fun _ a b => ⟨a, cy_push cy_num b⟩) (fun _ _ _ _ _ _ _ _ _ _ _ _ _ _ _ _ _ hx hb hl kk => lv_iconst hx hb hd rfl (kk _ hl)) k
theorem wx_bipush {n : Int} (hd : decode (mC M) pc = .ok (.bipush n, 2)) (k : WP g M d uc us (pc + 2) L (.inl (.int (Int8.ofInt n).toInt32) :: st) h Φ) : WP g M d uc us pc L st h Φ :=
  wp_step (fun _ a b => ⟨a, cy_push cy_num b⟩) (fun _ _ _ _ _ _ _ _ _ _ _ _ _ _ _ _ _ hx hb hl kk => lv_bipush hx hb hd rfl (kk _ hl)) k
theorem wx_sipush {n : Int} (hd : decode (mC M) pc = .ok (.sipush n, 3)) (k : WP g M d uc us (pc + 3) L (.inl (.int (Int16.ofInt n).toInt32) :: st) h Φ) : WP g M d uc us pc L st h Φ :=
  wp_step (fun _ a b => ⟨a, cy_push cy_num b⟩) (fun _ _ _ _ _ _ _ _ _ _ _ _ _ _ _ _ _ hx hb hl kk => lv_sipush hx hb hd rfl (kk _ hl)) k
theorem wx_lconst {n : Fin 2} (hd : decode (mC M) pc = .ok (.lconst n, 1)) (k : WP g M d uc us (pc + 1) L (.inl (.long (Int64.ofNat (n : Nat))) :: st) h Φ) : WP g M d uc us pc L st h Φ :=
  wp_step (fun _ a b => ⟨a, cy_push cy_num b⟩) (fun _ _ _ _ _ _ _ _ _ _ _ _ _ _ _ _ _ hx hb hl kk => lv_lconst hx hb hd rfl (kk _ hl)) k
theorem wx_dconst0 (hd : decode (mC M) pc = .ok (.dconst 0, 1)) (k : WP g M d uc us (pc + 1) L (.inl (.double FP.dconst0) :: st) h Φ) : WP g M d uc us pc L st h Φ :=
  wp_step (fun _ a b => ⟨a, cy_push cy_num b⟩) (fun _ _ _ _ _ _ _ _ _ _ _ _ _ _ _ _ _ hx hb hl kk => lv_dconst0 hx hb hd (kk _ hl)) k
theorem wx_dconst1 (hd : decode (mC M) pc = .ok (.dconst 1, 1)) (k : WP g M d uc us (pc + 1) L (.inl (.double FP.dconst1) :: st) h Φ) : WP g M d uc us pc L st h Φ :=
  wp_step (fun _ a b => ⟨a, cy_push cy_num b⟩) (fun _ _ _ _ _ _ _ _ _ _ _ _ _ _ _ _ _ hx hb hl kk => lv_dconst1 hx hb hd (kk _ hl)) k
theorem wx_null {s : Nat} (hs : s ≠ 13 ∧ s ≠ 14) (hd : decode (mC M) pc = .ok (.aconst_null, 1)) (k : WP g M d uc us (pc + 1) L (.inr (s, none) :: st) h Φ) : WP g M d uc us pc L st h Φ :=
  wp_step (fun _ a b => ⟨a, cy_push (cy_nul hs) b⟩) (fun _ _ _ _ _ _ _ _ _ _ _ _ _ _ _ _ _ hx hb hl kk => lv_null hx hb hd (kk _ hl)) k
theorem wx_iload_n {i : Fin 4} {x : Int32} (hd : decode (mC M) pc = .ok (.iload_n i, 1)) (h1 : lkL L (i : Nat) = some (.inl (.int x))) (k : WP g M d uc us (pc + 1) L (.inl (.int x) :: st) h Φ) : WP g M d uc us pc L st h Φ :=
  wp_step (fun _ a b => ⟨a, cy_push cy_num b⟩) (fun _ _ _ _ _ _ _ _ _ _ _ _ _ _ _ _ _ hx hb hl kk => lv_iload_n hx hb hd rfl (cy_lk hl h1) (kk _ hl)) k
theorem wx_iload {i : Nat} {x : Int32} (hd : decode (mC M) pc = .ok (.iload i, 2)) (h1 : lkL L i = some (.inl (.int x))) (k : WP g M d uc us (pc + 2) L (.inl (.int x) :: st) h Φ) : WP g M d uc us pc L st h Φ :=
  wp_step (fun _ a b => ⟨a, cy_push cy_num b⟩) (fun _ _ _ _ _ _ _ _ _ _ _ _ _ _ _ _ _ hx hb hl kk => lv_iload hx hb hd (cy_lk hl h1) (kk _ hl)) k
theorem wx_istore_n {i : Fin 4} {x : Int32} (hd : decode (mC M) pc = .ok (.istore_n i, 1)) (hn : (i : Nat) < mN M) (k : WP g M d uc us (pc + 1) (st1 L (i : Nat) (.inl (.int x))) st h Φ) : WP g M d uc us pc L (.inl (.int x) :: st) h Φ :=
  wp_step (fun _ a b => ⟨st1_wf a cy_num, cy_pop b⟩) (fun _ _ _ _ _ _ _ _ _ _ _ _ _ _ _ ad _ hx hb hl kk => lv_istore_n hx hb hd rfl hl hn (st1_cv ad L (i : Nat) (.inl (.int x))) kk) k
theorem wx_istore {i : Nat} {x : Int32} (hd : decode (mC M) pc = .ok (.istore i, 2)) (hn : i < mN M) (k : WP g M d uc us (pc + 2) (st1 L i (.inl (.int x))) st h Φ) : WP g M d uc us pc L (.inl (.int x) :: st) h Φ :=
  wp_step (fun _ a b => ⟨st1_wf a cy_num, cy_pop b⟩) (fun _ _ _ _ _ _ _ _ _ _ _ _ _ _ _ ad _ hx hb hl kk => lv_istore hx hb hd hl hn (st1_cv ad L i (.inl (.int x))) kk) k
theorem wx_lload_n {i : Fin 4} {x : Int64} (hd : decode (mC M) pc = .ok (.lload_n i, 1)) (h1 : lkL L (i : Nat) = some (.inl (.long x))) (k : WP g M d uc us (pc + 1) L (.inl (.long x) :: st) h Φ) : WP g M d uc us pc L st h Φ :=
  wp_step (fun _ a b => ⟨a, cy_push cy_num b⟩) (fun _ _ _ _ _ _ _ _ _ _ _ _ _ _ _ _ _ hx hb hl kk => lv_lload_n hx hb hd rfl (cy_lk hl h1) (kk _ hl)) k
theorem wx_lload {i : Nat} {x : Int64} (hd : decode (mC M) pc = .ok (.lload i, 2)) (h1 : lkL L i = some (.inl (.long x))) (k : WP g M d uc us (pc + 2) L (.inl (.long x) :: st) h Φ) : WP g M d uc us pc L st h Φ :=
  wp_step (fun _ a b => ⟨a, cy_push cy_num b⟩) (fun _ _ _ _ _ _ _ _ _ _ _ _ _ _ _ _ _ hx hb hl kk => lv_lload hx hb hd (cy_lk hl h1) (kk _ hl)) k
theorem wx_lstore_n {i : Fin 4} {x : Int64} (hd : decode (mC M) pc = .ok (.lstore_n i, 1)) (hn : (i : Nat) + 1 < mN M) (k : WP g M d uc us (pc + 1) (st2 L (i : Nat) (.inl (.long x))) st h Φ) : WP g M d uc us pc L (.inl (.long x) :: st) h Φ :=
  wp_step (fun _ a b => ⟨st2_wf a cy_num, cy_pop b⟩) (fun _ _ _ _ _ _ _ _ _ _ _ _ _ _ _ ad _ hx hb hl kk => lv_lstore_n hx hb hd rfl hl hn (st2_cv ad L (i : Nat) (.inl (.long x))) kk) k
theorem wx_lstore {i : Nat} {x : Int64} (hd : decode (mC M) pc = .ok (.lstore i, 2)) (hn : i + 1 < mN M) (k : WP g M d uc us (pc + 2) (st2 L i (.inl (.long x))) st h Φ) : WP g M d uc us pc L (.inl (.long x) :: st) h Φ :=
  wp_step (fun _ a b => ⟨st2_wf a cy_num, cy_pop b⟩) (fun _ _ _ _ _ _ _ _ _ _ _ _ _ _ _ ad _ hx hb hl kk => lv_lstore hx hb hd hl hn (st2_cv ad L i (.inl (.long x))) kk) k
theorem wx_dload_n {i : Fin 4} {x : UInt64} (hd : decode (mC M) pc = .ok (.dload_n i, 1)) (h1 : lkL L (i : Nat) = some (.inl (.double x))) (k : WP g M d uc us (pc + 1) L (.inl (.double x) :: st) h Φ) : WP g M d uc us pc L st h Φ :=
  wp_step (fun _ a b => ⟨a, cy_push cy_num b⟩) (fun _ _ _ _ _ _ _ _ _ _ _ _ _ _ _ _ _ hx hb hl kk => lv_dload_n hx hb hd rfl (cy_lk hl h1) (kk _ hl)) k
theorem wx_dload {i : Nat} {x : UInt64} (hd : decode (mC M) pc = .ok (.dload i, 2)) (h1 : lkL L i = some (.inl (.double x))) (k : WP g M d uc us (pc + 2) L (.inl (.double x) :: st) h Φ) : WP g M d uc us pc L st h Φ :=
  wp_step (fun _ a b => ⟨a, cy_push cy_num b⟩) (fun _ _ _ _ _ _ _ _ _ _ _ _ _ _ _ _ _ hx hb hl kk => lv_dload hx hb hd (cy_lk hl h1) (kk _ hl)) k
theorem wx_dstore_n {i : Fin 4} {x : UInt64} (hd : decode (mC M) pc = .ok (.dstore_n i, 1)) (hn : (i : Nat) + 1 < mN M) (k : WP g M d uc us (pc + 1) (st2 L (i : Nat) (.inl (.double x))) st h Φ) : WP g M d uc us pc L (.inl (.double x) :: st) h Φ :=
  wp_step (fun _ a b => ⟨st2_wf a cy_num, cy_pop b⟩) (fun _ _ _ _ _ _ _ _ _ _ _ _ _ _ _ ad _ hx hb hl kk => lv_dstore_n hx hb hd rfl hl hn (st2_cv ad L (i : Nat) (.inl (.double x))) kk) k
theorem wx_dstore {i : Nat} {x : UInt64} (hd : decode (mC M) pc = .ok (.dstore i, 2)) (hn : i + 1 < mN M) (k : WP g M d uc us (pc + 2) (st2 L i (.inl (.double x))) st h Φ) : WP g M d uc us pc L (.inl (.double x) :: st) h Φ :=
  wp_step (fun _ a b => ⟨st2_wf a cy_num, cy_pop b⟩) (fun _ _ _ _ _ _ _ _ _ _ _ _ _ _ _ ad _ hx hb hl kk => lv_dstore hx hb hd hl hn (st2_cv ad L i (.inl (.double x))) kk) k
theorem wx_aload_n {i : Fin 4} {s : Nat} {o : Option Nat} (hd : decode (mC M) pc = .ok (.aload_n i, 1)) (h1 : lkL L (i : Nat) = some (.inr (s, o))) (k : WP g M d uc us (pc + 1) L (.inr (s, o) :: st) h Φ) : WP g M d uc us pc L st h Φ :=
  wp_step (fun _ a b => ⟨a, cy_push (a _ (lkL_mem h1)) b⟩) (fun _ _ _ _ _ _ _ _ _ _ _ _ _ _ _ ad _ hx hb hl kk => by
    cases o with
    | none => exact lv_aload_nN hx hb hd rfl (cy_lk hl h1) (kk _ hl)
    | some j => exact lv_aload_n hx hb hd rfl (cy_lk hl h1) (kk _ hl)) k
theorem wx_aload {i : Nat} {s : Nat} {o : Option Nat} (hd : decode (mC M) pc = .ok (.aload i, 2)) (h1 : lkL L i = some (.inr (s, o))) (k : WP g M d uc us (pc + 2) L (.inr (s, o) :: st) h Φ) : WP g M d uc us pc L st h Φ :=
  wp_step (fun _ a b => ⟨a, cy_push (a _ (lkL_mem h1)) b⟩) (fun _ _ _ _ _ _ _ _ _ _ _ _ _ _ _ ad _ hx hb hl kk => by
    cases o with
    | none => exact lv_aloadN hx hb hd (cy_lk hl h1) (kk _ hl)
    | some j => exact lv_aload hx hb hd (cy_lk hl h1) (kk _ hl)) k
theorem wx_astore_n {i : Fin 4} {s : Nat} {o : Option Nat} (hd : decode (mC M) pc = .ok (.astore_n i, 1)) (hn : (i : Nat) < mN M) (k : WP g M d uc us (pc + 1) (st1 L (i : Nat) (.inr (s, o))) st h Φ) : WP g M d uc us pc L (.inr (s, o) :: st) h Φ :=
  wp_step (fun _ a b => ⟨st1_wf a (cy_top b), cy_pop b⟩) (fun _ _ _ _ _ _ _ _ _ _ _ _ _ _ _ ad _ hx hb hl kk => by
    cases o with
    | none => exact lv_astore_nN hx hb hd rfl hl hn (st1_cv ad L (i : Nat) (.inr (s, none))) kk
    | some j => exact lv_astore_n hx hb hd rfl hl hn (st1_cv ad L (i : Nat) (.inr (s, some j))) kk) k
theorem wx_astore {i : Nat} {s : Nat} {o : Option Nat} (hd : decode (mC M) pc = .ok (.astore i, 2)) (hn : i < mN M) (k : WP g M d uc us (pc + 2) (st1 L i (.inr (s, o))) st h Φ) : WP g M d uc us pc L (.inr (s, o) :: st) h Φ :=
  wp_step (fun _ a b => ⟨st1_wf a (cy_top b), cy_pop b⟩) (fun _ _ _ _ _ _ _ _ _ _ _ _ _ _ _ ad _ hx hb hl kk => by
    cases o with
    | none => exact lv_astoreN hx hb hd hl hn (st1_cv ad L i (.inr (s, none))) kk
    | some j => exact lv_astore hx hb hd hl hn (st1_cv ad L i (.inr (s, some j))) kk) k
theorem wx_iadd {x y : Int32} (hd : decode (mC M) pc = .ok (.iadd, 1)) (k : WP g M d uc us (pc + 1) L (.inl (.int (x + y)) :: st) h Φ) : WP g M d uc us pc L (.inl (.int y) :: .inl (.int x) :: st) h Φ :=
  wp_step (fun _ a b => ⟨a, cy_push cy_num (cy_pop (cy_pop b))⟩) (fun _ _ _ _ _ _ _ _ _ _ _ _ _ _ _ _ _ hx hb hl kk => lv_iadd hx hb hd (kk _ hl)) k
theorem wx_isub {x y : Int32} (hd : decode (mC M) pc = .ok (.isub, 1)) (k : WP g M d uc us (pc + 1) L (.inl (.int (x - y)) :: st) h Φ) : WP g M d uc us pc L (.inl (.int y) :: .inl (.int x) :: st) h Φ :=
  wp_step (fun _ a b => ⟨a, cy_push cy_num (cy_pop (cy_pop b))⟩) (fun _ _ _ _ _ _ _ _ _ _ _ _ _ _ _ _ _ hx hb hl kk => lv_isub hx hb hd (kk _ hl)) k
theorem wx_imul {x y : Int32} (hd : decode (mC M) pc = .ok (.imul, 1)) (k : WP g M d uc us (pc + 1) L (.inl (.int (x * y)) :: st) h Φ) : WP g M d uc us pc L (.inl (.int y) :: .inl (.int x) :: st) h Φ :=
  wp_step (fun _ a b => ⟨a, cy_push cy_num (cy_pop (cy_pop b))⟩) (fun _ _ _ _ _ _ _ _ _ _ _ _ _ _ _ _ _ hx hb hl kk => lv_imul hx hb hd (kk _ hl)) k
theorem wx_iand {x y : Int32} (hd : decode (mC M) pc = .ok (.iand, 1)) (k : WP g M d uc us (pc + 1) L (.inl (.int (x &&& y)) :: st) h Φ) : WP g M d uc us pc L (.inl (.int y) :: .inl (.int x) :: st) h Φ :=
  wp_step (fun _ a b => ⟨a, cy_push cy_num (cy_pop (cy_pop b))⟩) (fun _ _ _ _ _ _ _ _ _ _ _ _ _ _ _ _ _ hx hb hl kk => lv_iand hx hb hd (kk _ hl)) k
theorem wx_ior {x y : Int32} (hd : decode (mC M) pc = .ok (.ior, 1)) (k : WP g M d uc us (pc + 1) L (.inl (.int (x ||| y)) :: st) h Φ) : WP g M d uc us pc L (.inl (.int y) :: .inl (.int x) :: st) h Φ :=
  wp_step (fun _ a b => ⟨a, cy_push cy_num (cy_pop (cy_pop b))⟩) (fun _ _ _ _ _ _ _ _ _ _ _ _ _ _ _ _ _ hx hb hl kk => lv_ior hx hb hd (kk _ hl)) k
theorem wx_ishl {x y : Int32} (hd : decode (mC M) pc = .ok (.ishl, 1)) (k : WP g M d uc us (pc + 1) L (.inl (.int (x <<< (y &&& 31))) :: st) h Φ) : WP g M d uc us pc L (.inl (.int y) :: .inl (.int x) :: st) h Φ :=
  wp_step (fun _ a b => ⟨a, cy_push cy_num (cy_pop (cy_pop b))⟩) (fun _ _ _ _ _ _ _ _ _ _ _ _ _ _ _ _ _ hx hb hl kk => lv_ishl hx hb hd (kk _ hl)) k
theorem wx_ishr {x y : Int32} (hd : decode (mC M) pc = .ok (.ishr, 1)) (k : WP g M d uc us (pc + 1) L (.inl (.int (x >>> (y &&& 31))) :: st) h Φ) : WP g M d uc us pc L (.inl (.int y) :: .inl (.int x) :: st) h Φ :=
  wp_step (fun _ a b => ⟨a, cy_push cy_num (cy_pop (cy_pop b))⟩) (fun _ _ _ _ _ _ _ _ _ _ _ _ _ _ _ _ _ hx hb hl kk => lv_ishr hx hb hd (kk _ hl)) k
theorem wx_idiv {x y : Int32} (hne : ¬ y = 0) (hd : decode (mC M) pc = .ok (.idiv, 1)) (k : WP g M d uc us (pc + 1) L (.inl (.int (x / y)) :: st) h Φ) : WP g M d uc us pc L (.inl (.int y) :: .inl (.int x) :: st) h Φ :=
  wp_step (fun _ a b => ⟨a, cy_push cy_num (cy_pop (cy_pop b))⟩) (fun _ _ _ _ _ _ _ _ _ _ _ _ _ _ _ _ _ hx hb hl kk => lv_idiv hx hb hd hne (kk _ hl)) k
theorem wx_irem {x y : Int32} (hne : ¬ y = 0) (hd : decode (mC M) pc = .ok (.irem, 1)) (k : WP g M d uc us (pc + 1) L (.inl (.int (x - x / y * y)) :: st) h Φ) : WP g M d uc us pc L (.inl (.int y) :: .inl (.int x) :: st) h Φ :=
  wp_step (fun _ a b => ⟨a, cy_push cy_num (cy_pop (cy_pop b))⟩) (fun _ _ _ _ _ _ _ _ _ _ _ _ _ _ _ _ _ hx hb hl kk => lv_irem hx hb hd hne (kk _ hl)) k
theorem wx_lcmp {x y : Int64} (hd : decode (mC M) pc = .ok (.lcmp, 1)) (k : WP g M d uc us (pc + 1) L (.inl (.int (lg_cmp x y)) :: st) h Φ) : WP g M d uc us pc L (.inl (.long y) :: .inl (.long x) :: st) h Φ :=
  wp_step (fun _ a b => ⟨a, cy_push cy_num (cy_pop (cy_pop b))⟩) (fun _ _ _ _ _ _ _ _ _ _ _ _ _ _ _ _ _ hx hb hl kk => W.lcmp hx hb hd (kk _ hl)) k
theorem wx_dadd {x y : UInt64} (hne : vf_n64 (FP.dadd x y)) (hd : decode (mC M) pc = .ok (.dadd, 1)) (k : WP g M d uc us (pc + 1) L (.inl (.double (FP.dadd x y)) :: st) h Φ) : WP g M d uc us pc L (.inl (.double y) :: .inl (.double x) :: st) h Φ :=
  wp_step (fun _ a b => ⟨a, cy_push cy_num (cy_pop (cy_pop b))⟩) (fun _ _ _ _ _ _ _ _ _ _ _ _ _ _ _ _ _ hx hb hl kk => lv_dadd hx hb hd hne (kk _ hl)) k
theorem wx_dmul {x y : UInt64} (hne : vf_n64 (FP.dmul x y)) (hd : decode (mC M) pc = .ok (.dmul, 1)) (k : WP g M d uc us (pc + 1) L (.inl (.double (FP.dmul x y)) :: st) h Φ) : WP g M d uc us pc L (.inl (.double y) :: .inl (.double x) :: st) h Φ :=
  wp_step (fun _ a b => ⟨a, cy_push cy_num (cy_pop (cy_pop b))⟩) (fun _ _ _ _ _ _ _ _ _ _ _ _ _ _ _ _ _ hx hb hl kk => lv_dmul hx hb hd hne (kk _ hl)) k
theorem wx_ddiv {x y : UInt64} (hne : vf_n64 (FP.ddiv x y)) (hd : decode (mC M) pc = .ok (.ddiv, 1)) (k : WP g M d uc us (pc + 1) L (.inl (.double (FP.ddiv x y)) :: st) h Φ) : WP g M d uc us pc L (.inl (.double y) :: .inl (.double x) :: st) h Φ :=
  wp_step (fun _ a b => ⟨a, cy_push cy_num (cy_pop (cy_pop b))⟩) (fun _ _ _ _ _ _ _ _ _ _ _ _ _ _ _ _ _ hx hb hl kk => lv_ddiv hx hb hd hne (kk _ hl)) k
theorem wx_dcmp {x y : UInt64} {op : CmpOp} (hd : decode (mC M) pc = .ok (.dcmp op, 1)) (k : WP g M d uc us (pc + 1) L (.inl (.int (Op.cmpValue (FP.dcmp x y) op)) :: st) h Φ) : WP g M d uc us pc L (.inl (.double y) :: .inl (.double x) :: st) h Φ :=
  wp_step (fun _ a b => ⟨a, cy_push cy_num (cy_pop (cy_pop b))⟩) (fun _ _ _ _ _ _ _ _ _ _ _ _ _ _ _ _ _ hx hb hl kk => lv_dcmp hx hb hd (kk _ hl)) k
theorem wx_i2l {x : Int32} (hd : decode (mC M) pc = .ok (.i2l, 1)) (k : WP g M d uc us (pc + 1) L (.inl (.long (x.toInt64)) :: st) h Φ) : WP g M d uc us pc L (.inl (.int x) :: st) h Φ :=
  wp_step (fun _ a b => ⟨a, cy_push cy_num (cy_pop b)⟩) (fun _ _ _ _ _ _ _ _ _ _ _ _ _ _ _ _ _ hx hb hl kk => lv_i2l hx hb hd rfl (kk _ hl)) k
theorem wx_i2d {x : Int32} (hd : decode (mC M) pc = .ok (.i2d, 1)) (k : WP g M d uc us (pc + 1) L (.inl (.double (FP.i2d x)) :: st) h Φ) : WP g M d uc us pc L (.inl (.int x) :: st) h Φ :=
  wp_step (fun _ a b => ⟨a, cy_push cy_num (cy_pop b)⟩) (fun _ _ _ _ _ _ _ _ _ _ _ _ _ _ _ _ _ hx hb hl kk => lv_i2d hx hb hd (kk _ hl)) k
theorem wx_dup {v : AV} (hv : cy_ct v = 1) (hd : decode (mC M) pc = .ok (.dup, 1)) (k : WP g M d uc us (pc + 1) L (v :: v :: st) h Φ) : WP g M d uc us pc L (v :: st) h Φ :=
  wp_step (fun _ a b => ⟨a, cy_push (cy_top b) b⟩) (fun _ _ _ _ _ _ _ _ _ _ _ _ _ _ _ ad _ hx hb hl kk => lv_dup hx hb hd (by rw [cy_ct_cv]; exact hv) (kk _ hl)) k
theorem wx_dup2 {v w : AV} (hv : cy_ct v = 1) (hw : cy_ct w = 1) (hd : decode (mC M) pc = .ok (.dup2, 1)) (k : WP g M d uc us (pc + 1) L (v :: w :: v :: w :: st) h Φ) : WP g M d uc us pc L (v :: w :: st) h Φ :=
  wp_step (fun _ a b => ⟨a, cy_push (cy_top b) (cy_push (cy_top (cy_pop b)) b)⟩) (fun _ _ _ _ _ _ _ _ _ _ _ _ _ _ _ ad _ hx hb hl kk => lv_dup2_11 hx hb hd (by rw [cy_ct_cv]; exact hv) (by rw [cy_ct_cv]; exact hw) (kk _ hl)) k
theorem wx_pop {v : AV} (hv : cy_ct v = 1) (hd : decode (mC M) pc = .ok (.pop, 1)) (k : WP g M d uc us (pc + 1) L st h Φ) : WP g M d uc us pc L (v :: st) h Φ :=
  wp_step (fun _ a b => ⟨a, cy_pop b⟩) (fun _ _ _ _ _ _ _ _ _ _ _ _ _ _ _ ad _ hx hb hl kk => lv_pop hx hb hd (by rw [cy_ct_cv]; exact hv) (kk _ hl)) k
theorem wx_goto {off : Int} {tgt : Nat} (hd : decode (mC M) pc = .ok (.goto off, 3)) (ht : (pc : Int) + off = (tgt : Int)) (k : WP g M d uc us tgt L st h Φ) : WP g M d uc us pc L st h Φ :=
  wp_step (fun _ a b => ⟨a, b⟩) (fun _ _ _ _ _ _ _ _ _ _ _ _ _ _ _ _ _ hx hb hl kk => lv_goto hx hb hd ht (kk _ hl)) k
theorem cy_place {ad : Nat → Nat → Nat} : ∀ {L : List (Nat × AV)} {i : Nat} {v : AV}, lkL L i = some v → ∃ k : Nat, (L.map (fun q => (q.1, cy_cv ad q.2)))[k]? = some (i, cy_cv ad v) := by
  intro L i v hl
  obtain ⟨k, hk⟩ := List.getElem?_of_mem (lkL_mem hl)
  exact ⟨k, by rw [List.getElem?_map, hk]; rfl⟩
theorem wx_iinc {i : Nat} {n : Int} {x : Int32} (hd : decode (mC M) pc = .ok (.iinc i n, 3)) (h1 : lkL L i = some (.inl (.int x))) (hn : i < mN M) (k : WP g M d uc us (pc + 3) (st1 L i (.inl (.int (x + Int32.ofInt n)))) st h Φ) : WP g M d uc us pc L st h Φ :=
  wp_step (fun _ a b => ⟨st1_wf a cy_num, b⟩) (fun _ _ _ _ _ _ _ _ _ _ _ _ _ _ _ ad _ hx hb hl kk => by
    obtain ⟨k9, hk9⟩ := cy_place (ad := ad) h1
    exact lv_iinc hx hb hd hl hk9 rfl hn (st1_cv ad L i (.inl (.int (x + Int32.ofInt n)))) kk) k
theorem wp_fork {pc1 pc2 : Nat} {st' : List AV} {A B : Prop} (hp : ∀ cn : Nat → Nat, (∀ v ∈ st, cy_wf cn v) → ∀ v ∈ st', cy_wf cn v)
    (hstep : ∀ (p : Program) (l : Launch) (e : Env) (R : Room) (s : State) (m : MethodId) (args : Array Value) (below : List Frame) (meth : Method) (c : Code) (H : Heap) (locs : List Loc) (cells slots : Nat) (Q : State → Prop) (ad : Nat → Nat → Nat) (ls : Array Slot),
      p.tables.exec = Jvm.exec → c.code = mC M → (A → W p l e R s m args below meth c H locs cells slots Q (F0 m pc1 ls (st'.map (cy_cv ad)))) → (B → W p l e R s m args below meth c H locs cells slots Q (F0 m pc2 ls (st'.map (cy_cv ad)))) → W p l e R s m args below meth c H locs cells slots Q (F0 m pc ls (st.map (cy_cv ad))))
    (kt : A → WP g M d uc us pc1 L st' h Φ) (kf : B → WP g M d uc us pc2 L st' h Φ) : WP g M d uc us pc L st h Φ := by
  intro hg p e R s m args below meth c H locs cells slots ls ad ad0 cn0 hE hd hdl hc hs hr hx hR hB hS hl hwL hwS
  exact hstep p (cy_l g) e R s m args below meth c H locs cells slots _ ad ls hE.1 hE.2.1
    (fun a => kt a hg p e R s m args below meth c H locs cells slots ls ad ad0 cn0 hE hd hdl hc hs hr hx hR hB hS hl hwL (hp _ hwS))
    (fun b => kf b hg p e R s m args below meth c H locs cells slots ls ad ad0 cn0 hE hd hdl hc hs hr hx hR hB hS hl hwL (hp _ hwS))
theorem wx_if_eq {x : Int32} {off : Int} {tgt : Nat} (hd : decode (mC M) pc = .ok (.ifCond .eq off, 3)) (ht : (pc : Int) + off = (tgt : Int)) (kt : x = 0 → WP g M d uc us tgt L st h Φ) (kf : ¬ x = 0 → WP g M d uc us (pc + 3) L st h Φ) : WP g M d uc us pc L (.inl (.int x) :: st) h Φ :=
  wp_fork (fun _ b => cy_pop b) (fun _ _ _ _ _ _ _ _ _ _ _ _ _ _ _ _ _ hx hb a b => lv_if_eq hx hb hd ht a b) kt kf
theorem wx_icmp_eq {x y : Int32} {off : Int} {tgt : Nat} (hd : decode (mC M) pc = .ok (.if_icmp .eq off, 3)) (ht : (pc : Int) + off = (tgt : Int)) (kt : x = y → WP g M d uc us tgt L st h Φ) (kf : ¬ x = y → WP g M d uc us (pc + 3) L st h Φ) : WP g M d uc us pc L (.inl (.int y) :: .inl (.int x) :: st) h Φ :=
  wp_fork (fun _ b => cy_pop (cy_pop b)) (fun _ _ _ _ _ _ _ _ _ _ _ _ _ _ _ _ _ hx hb a b => lv_icmp_eq hx hb hd ht a b) kt kf
theorem wx_if_ne {x : Int32} {off : Int} {tgt : Nat} (hd : decode (mC M) pc = .ok (.ifCond .ne off, 3)) (ht : (pc : Int) + off = (tgt : Int)) (kt : ¬ x = 0 → WP g M d uc us tgt L st h Φ) (kf : x = 0 → WP g M d uc us (pc + 3) L st h Φ) : WP g M d uc us pc L (.inl (.int x) :: st) h Φ :=
  wp_fork (fun _ b => cy_pop b) (fun _ _ _ _ _ _ _ _ _ _ _ _ _ _ _ _ _ hx hb a b => lv_if_ne hx hb hd ht a b) kt kf
theorem wx_icmp_ne {x y : Int32} {off : Int} {tgt : Nat} (hd : decode (mC M) pc = .ok (.if_icmp .ne off, 3)) (ht : (pc : Int) + off = (tgt : Int)) (kt : ¬ x = y → WP g M d uc us tgt L st h Φ) (kf : x = y → WP g M d uc us (pc + 3) L st h Φ) : WP g M d uc us pc L (.inl (.int y) :: .inl (.int x) :: st) h Φ :=
  wp_fork (fun _ b => cy_pop (cy_pop b)) (fun _ _ _ _ _ _ _ _ _ _ _ _ _ _ _ _ _ hx hb a b => lv_icmp_ne hx hb hd ht a b) kt kf
theorem wx_if_lt {x : Int32} {off : Int} {tgt : Nat} (hd : decode (mC M) pc = .ok (.ifCond .lt off, 3)) (ht : (pc : Int) + off = (tgt : Int)) (kt : x < 0 → WP g M d uc us tgt L st h Φ) (kf : ¬ x < 0 → WP g M d uc us (pc + 3) L st h Φ) : WP g M d uc us pc L (.inl (.int x) :: st) h Φ :=
  wp_fork (fun _ b => cy_pop b) (fun _ _ _ _ _ _ _ _ _ _ _ _ _ _ _ _ _ hx hb a b => lv_if_lt hx hb hd ht a b) kt kf
theorem wx_icmp_lt {x y : Int32} {off : Int} {tgt : Nat} (hd : decode (mC M) pc = .ok (.if_icmp .lt off, 3)) (ht : (pc : Int) + off = (tgt : Int)) (kt : x < y → WP g M d uc us tgt L st h Φ) (kf : ¬ x < y → WP g M d uc us (pc + 3) L st h Φ) : WP g M d uc us pc L (.inl (.int y) :: .inl (.int x) :: st) h Φ :=
  wp_fork (fun _ b => cy_pop (cy_pop b)) (fun _ _ _ _ _ _ _ _ _ _ _ _ _ _ _ _ _ hx hb a b => lv_icmp_lt hx hb hd ht a b) kt kf
theorem wx_if_ge {x : Int32} {off : Int} {tgt : Nat} (hd : decode (mC M) pc = .ok (.ifCond .ge off, 3)) (ht : (pc : Int) + off = (tgt : Int)) (kt : 0 ≤ x → WP g M d uc us tgt L st h Φ) (kf : ¬ 0 ≤ x → WP g M d uc us (pc + 3) L st h Φ) : WP g M d uc us pc L (.inl (.int x) :: st) h Φ :=
  wp_fork (fun _ b => cy_pop b) (fun _ _ _ _ _ _ _ _ _ _ _ _ _ _ _ _ _ hx hb a b => lv_if_ge hx hb hd ht a b) kt kf
theorem wx_icmp_ge {x y : Int32} {off : Int} {tgt : Nat} (hd : decode (mC M) pc = .ok (.if_icmp .ge off, 3)) (ht : (pc : Int) + off = (tgt : Int)) (kt : y ≤ x → WP g M d uc us tgt L st h Φ) (kf : ¬ y ≤ x → WP g M d uc us (pc + 3) L st h Φ) : WP g M d uc us pc L (.inl (.int y) :: .inl (.int x) :: st) h Φ :=
  wp_fork (fun _ b => cy_pop (cy_pop b)) (fun _ _ _ _ _ _ _ _ _ _ _ _ _ _ _ _ _ hx hb a b => lv_icmp_ge hx hb hd ht a b) kt kf
theorem wx_if_gt {x : Int32} {off : Int} {tgt : Nat} (hd : decode (mC M) pc = .ok (.ifCond .gt off, 3)) (ht : (pc : Int) + off = (tgt : Int)) (kt : 0 < x → WP g M d uc us tgt L st h Φ) (kf : ¬ 0 < x → WP g M d uc us (pc + 3) L st h Φ) : WP g M d uc us pc L (.inl (.int x) :: st) h Φ :=
  wp_fork (fun _ b => cy_pop b) (fun _ _ _ _ _ _ _ _ _ _ _ _ _ _ _ _ _ hx hb a b => lv_if_gt hx hb hd ht a b) kt kf
theorem wx_icmp_gt {x y : Int32} {off : Int} {tgt : Nat} (hd : decode (mC M) pc = .ok (.if_icmp .gt off, 3)) (ht : (pc : Int) + off = (tgt : Int)) (kt : y < x → WP g M d uc us tgt L st h Φ) (kf : ¬ y < x → WP g M d uc us (pc + 3) L st h Φ) : WP g M d uc us pc L (.inl (.int y) :: .inl (.int x) :: st) h Φ :=
  wp_fork (fun _ b => cy_pop (cy_pop b)) (fun _ _ _ _ _ _ _ _ _ _ _ _ _ _ _ _ _ hx hb a b => lv_icmp_gt hx hb hd ht a b) kt kf
theorem wx_if_le {x : Int32} {off : Int} {tgt : Nat} (hd : decode (mC M) pc = .ok (.ifCond .le off, 3)) (ht : (pc : Int) + off = (tgt : Int)) (kt : x ≤ 0 → WP g M d uc us tgt L st h Φ) (kf : ¬ x ≤ 0 → WP g M d uc us (pc + 3) L st h Φ) : WP g M d uc us pc L (.inl (.int x) :: st) h Φ :=
  wp_fork (fun _ b => cy_pop b) (fun _ _ _ _ _ _ _ _ _ _ _ _ _ _ _ _ _ hx hb a b => lv_if_le hx hb hd ht a b) kt kf
theorem wx_icmp_le {x y : Int32} {off : Int} {tgt : Nat} (hd : decode (mC M) pc = .ok (.if_icmp .le off, 3)) (ht : (pc : Int) + off = (tgt : Int)) (kt : x ≤ y → WP g M d uc us tgt L st h Φ) (kf : ¬ x ≤ y → WP g M d uc us (pc + 3) L st h Φ) : WP g M d uc us pc L (.inl (.int y) :: .inl (.int x) :: st) h Φ :=
  wp_fork (fun _ b => cy_pop (cy_pop b)) (fun _ _ _ _ _ _ _ _ _ _ _ _ _ _ _ _ _ hx hb a b => lv_icmp_le hx hb hd ht a b) kt kf
theorem wx_ifnull {s : Nat} {o : Option Nat} {off : Int} {tgt : Nat} (hd : decode (mC M) pc = .ok (.ifnull off, 3)) (ht : (pc : Int) + off = (tgt : Int)) (kt : o = none → WP g M d uc us tgt L st h Φ) (kf : (∃ i, o = some i) → WP g M d uc us (pc + 3) L st h Φ) : WP g M d uc us pc L (.inr (s, o) :: st) h Φ :=
  wp_fork (fun _ b => cy_pop b) (fun _ _ _ _ _ _ _ _ _ _ _ _ _ _ _ ad _ hx hb a b => by
    cases o with
    | none => exact lv_ifnullN hx hb hd ht (a rfl)
    | some i => exact lv_ifnull hx hb hd (b ⟨i, rfl⟩)) kt kf
theorem wx_ifnonnull {s : Nat} {o : Option Nat} {off : Int} {tgt : Nat} (hd : decode (mC M) pc = .ok (.ifnonnull off, 3)) (ht : (pc : Int) + off = (tgt : Int)) (kt : (∃ i, o = some i) → WP g M d uc us tgt L st h Φ) (kf : o = none → WP g M d uc us (pc + 3) L st h Φ) : WP g M d uc us pc L (.inr (s, o) :: st) h Φ :=
  wp_fork (fun _ b => cy_pop b) (fun _ _ _ _ _ _ _ _ _ _ _ _ _ _ _ ad _ hx hb a b => by
    cases o with
    | none => exact lv_ifnonnullN hx hb hd (b rfl)
    | some i => exact lv_ifnonnull hx hb hd ht (a ⟨i, rfl⟩)) kt kf
theorem wx_tableIn {dflt lo hi : Int} {offs : Array Int} {len : Nat} {x : Int32} {off : Int} {tgt : Nat} (hd : decode (mC M) pc = .ok (.tableswitch dflt lo hi offs, len)) (h1 : ¬ x.toInt < lo) (h2 : ¬ hi < x.toInt) (ho : offs[(x.toInt - lo).toNat]? = some off) (ht : (pc : Int) + off = (tgt : Int)) (k : WP g M d uc us tgt L st h Φ) : WP g M d uc us pc L (.inl (.int x) :: st) h Φ :=
  wp_step (fun _ a b => ⟨a, cy_pop b⟩) (fun _ _ _ _ _ _ _ _ _ _ _ _ _ _ _ _ _ hx hb hl kk => lv_tableIn hx hb hd h1 h2 ho ht (kk _ hl)) k
theorem wx_tableOut {dflt lo hi : Int} {offs : Array Int} {len : Nat} {x : Int32} {tgt : Nat} (hd : decode (mC M) pc = .ok (.tableswitch dflt lo hi offs, len)) (h1 : x.toInt < lo ∨ hi < x.toInt) (ht : (pc : Int) + dflt = (tgt : Int)) (k : WP g M d uc us tgt L st h Φ) : WP g M d uc us pc L (.inl (.int x) :: st) h Φ :=
  wp_step (fun _ a b => ⟨a, cy_pop b⟩) (fun _ _ _ _ _ _ _ _ _ _ _ _ _ _ _ _ _ hx hb hl kk => lv_tableOut hx hb hd h1 ht (kk _ hl)) k
theorem wp_sub {L' : List (Nat × AV)} (ks : List Nat) (hL : ks.filterMap (fun k => L[k]?) = L') (k : WP g M d uc us pc L' st h Φ) : WP g M d uc us pc L st h Φ :=
  wp_step (fun _ a b => ⟨fun q hq => by
      rw [← hL] at hq
      obtain ⟨j, -, hj⟩ := List.mem_filterMap.mp hq
      exact a q (List.mem_of_getElem? hj), b⟩) (fun _ _ _ _ _ _ _ _ _ _ _ _ _ _ _ ad ls hx hb hl kk => by
    refine kk ls (lv_sub hl ks ?_)
    unfold lv_pick
    rw [← hL, List.map_filterMap]
    congr 1
    funext j
    rw [List.getElem?_map]) k
theorem wx_ldc {index : Nat} {v : Int32} (hw : Cond.constant (mO M) index v ∈ lw_tbl) (hd : decode (mC M) pc = .ok (.ldc index, 2)) (k : WP g M d uc us (pc + 2) L (.inl (.int v) :: st) h Φ) : WP g M d uc us pc L st h Φ := by
  intro hg p e R s m args below meth c H locs cells slots ls ad ad0 cn0 hE hd9 hdl hc hs hr hx hR hB hS hl hwL hwS
  exact lv_ldc hE.1 hE.2.1 hE.2.2.2.2.1 (cy_wd hg hE.2.2.2.2.2.2.1 hw (by rfl)) hd (k hg p e R s m args below meth c H locs cells slots ls ad ad0 cn0 hE hd9 hdl hc hs hr hx hR hB hS hl hwL (cy_push cy_num hwS))
theorem wx_ldc2d {index : Nat} {v : UInt64} (hw : Cond.constantDouble (mO M) index v ∈ lw_tbl) (hd : decode (mC M) pc = .ok (.ldc2_w index, 3)) (k : WP g M d uc us (pc + 3) L (.inl (.double v) :: st) h Φ) : WP g M d uc us pc L st h Φ := by
  intro hg p e R s m args below meth c H locs cells slots ls ad ad0 cn0 hE hd9 hdl hc hs hr hx hR hB hS hl hwL hwS
  exact lv_ldc2d hE.1 hE.2.1 hE.2.2.2.2.1 (cy_wd hg hE.2.2.2.2.2.2.1 hw (by rfl)) hd (k hg p e R s m args below meth c H locs cells slots ls ad ad0 cn0 hE hd9 hdl hc hs hr hx hR hB hS hl hwL (cy_push cy_num hwS))
/-- the end of a body that answers or not -/
theorem wp_end {r : Option AV} (hL : mL M = 0) (hΦ : Φ (.inl r) h) (hwr : ∀ cn : Nat → Nat, (∀ v ∈ st, cy_wf cn v) → ∀ v, r = some v → cy_wf cn v)
    (row : ∀ (p : Program) (l : Launch) (e : Env) (R : Room) (s : State) (m : MethodId) (args : Array Value) (below : List Frame) (meth : Method) (c : Code) (H : Heap) (locs : List Loc) (cells slots : Nat) (ad : Nat → Nat → Nat) (ls : Array Slot) (Qc : Array Value → State → Outcome → State → Prop) (free : Addr → Prop),
      p.tables.exec = Jvm.exec → c.code = mC M → meth.sig.returnType = mR M → meth.locks = false → (∀ t : State, t.heap = H → s.WarmedH t.vm → Qc args s (.returned (r.map (cy_cv ad))) t) → (∀ q ∈ locs, free q.base) → W p l e R s m args below meth c H locs cells slots (MQ below Qc args s cells slots free) (F0 m pc ls (st.map (cy_cv ad)))) : WP g M d uc us pc L st h Φ := by
  intro hg p e R s m args below meth c H locs cells slots ls ad ad0 cn0 hE hd9 hdl hc hs hr hx hR hB hS hl hwL hwS
  simp only [cy_Fi, hL, if_true]
  refine W.widen (k := R.cells) (n := R.slots) (by omega) (by omega) ?_
  refine vx_ret ?_
  exact row p (cy_l g) e R s m args below meth c H locs R.cells R.slots ad ls _ _ hE.1 hE.2.1 hE.2.2.2.1 hE.2.2.2.2.2.1 (fun t ht hW => ⟨by rw [ht]; exact hS.1, r, h, ad, hΦ, rfl, hwr _ hwS, by rw [ht]; exact hR, hx⟩) hS.2.2
theorem wx_iret {x : Int32} (hL : mL M = 0) (hr : mR M = some .int) (hd : decode (mC M) pc = .ok (.ireturn, 1)) (hΦ : Φ (.inl (some (.inl (.int x)))) h) : WP g M d uc us pc L [.inl (.int x)] h Φ :=
  wp_end hL hΦ (fun _ _ v e => by cases e; trivial) (fun _ _ _ _ _ _ _ _ _ _ _ _ _ _ ad _ _ _ hx hb hrt hlk hq hf => W.iret hx hb (hrt.trans hr) hq hf hd hlk)
theorem wx_zret {x : Int32} (hL : mL M = 0) (hr : mR M = some .boolean) (hn : narrow .boolean (.int x) = .int x) (hd : decode (mC M) pc = .ok (.ireturn, 1)) (hΦ : Φ (.inl (some (.inl (.int x)))) h) : WP g M d uc us pc L [.inl (.int x)] h Φ :=
  wp_end hL hΦ (fun _ _ v e => by cases e; trivial) (fun _ _ _ _ _ _ _ _ _ _ _ _ _ _ ad _ _ _ hx hb hrt hlk hq hf => W.zret hx hb (hrt.trans hr) hn hq hf hd hlk)
theorem wx_dret {x : UInt64} (hL : mL M = 0) (hr : mR M = some .double) (hd : decode (mC M) pc = .ok (.dreturn, 1)) (hΦ : Φ (.inl (some (.inl (.double x)))) h) : WP g M d uc us pc L [.inl (.double x)] h Φ :=
  wp_end hL hΦ (fun _ _ v e => by cases e; trivial) (fun _ _ _ _ _ _ _ _ _ _ _ _ _ _ ad _ _ _ hx hb hrt hlk hq hf => W.dret hx hb (hrt.trans hr) hq hf hd hlk)
theorem wx_aret {s : Nat} {o : Option Nat} {C : String} (hL : mL M = 0) (hr : mR M = some (.object C)) (hd : decode (mC M) pc = .ok (.areturn, 1)) (hΦ : Φ (.inl (some (.inr (s, o)))) h) : WP g M d uc us pc L [.inr (s, o)] h Φ :=
  wp_end hL hΦ (fun _ hw v e => by cases e; exact cy_top hw) (fun _ _ _ _ _ _ _ _ _ _ _ _ _ _ ad _ _ _ hx hb hrt hlk hq hf => W.aret hx hb (hrt.trans hr) (Or.inl ⟨_, rfl⟩) (va_rf_or _) hq hf hd hlk)
theorem wx_vret (hL : mL M = 0) (hr : mR M = none) (hd : decode (mC M) pc = .ok (.return_, 1)) (hΦ : Φ (.inl none) h) : WP g M d uc us pc L [] h Φ :=
  wp_end hL hΦ (fun _ _ v e => by cases e) (fun _ _ _ _ _ _ _ _ _ _ _ _ _ _ ad _ _ _ hx hb hrt hlk hq hf => W.vret hx hb (hrt.trans hr) hq hf hd hlk)

def cy_x1 (nL len : Nat) (i : Instr) (L : List (Nat × AV)) (st : List AV) : Option (List (Nat × AV) × List AV) := match i with
  | .iconst n => if len = 1 then some (L, .inl (.int (Int32.ofInt n)) :: st) else none
  | .bipush n => if len = 2 then some (L, .inl (.int (Int8.ofInt n).toInt32) :: st) else none
  | .sipush n => if len = 3 then some (L, .inl (.int (Int16.ofInt n).toInt32) :: st) else none
  | .lconst n => if len = 1 then some (L, .inl (.long (Int64.ofNat (n : Nat))) :: st) else none
  | .iload_n k => match lkL L (k : Nat) with
    | some (.inl (.int x)) => if len = 1 then some (L, .inl (.int x) :: st) else none
    | _ => none
  | .iload k => match lkL L k with
    | some (.inl (.int x)) => if len = 2 then some (L, .inl (.int x) :: st) else none
    | _ => none
  | .dload_n k => match lkL L (k : Nat) with
    | some (.inl (.double x)) => if len = 1 then some (L, .inl (.double x) :: st) else none
    | _ => none
  | .dload k => match lkL L k with
    | some (.inl (.double x)) => if len = 2 then some (L, .inl (.double x) :: st) else none
    | _ => none
  | .aload_n k => match lkL L (k : Nat) with
    | some (.inr (s, o)) => if len = 1 then some (L, .inr (s, o) :: st) else none
    | _ => none
  | .aload k => match lkL L k with
    | some (.inr (s, o)) => if len = 2 then some (L, .inr (s, o) :: st) else none
    | _ => none
  | .istore_n k => match st with
    | .inl (.int x) :: r => if len = 1 ∧ (k : Nat) < nL then some (st1 L (k : Nat) (.inl (.int x)), r) else none
    | _ => none
  | .istore k => match st with
    | .inl (.int x) :: r => if len = 2 ∧ k < nL then some (st1 L k (.inl (.int x)), r) else none
    | _ => none
  | .dstore_n k => match st with
    | .inl (.double x) :: r => if len = 1 ∧ (k : Nat) + 1 < nL then some (st2 L (k : Nat) (.inl (.double x)), r) else none
    | _ => none
  | .dstore k => match st with
    | .inl (.double x) :: r => if len = 2 ∧ k + 1 < nL then some (st2 L k (.inl (.double x)), r) else none
    | _ => none
  | .astore_n k => match st with
    | .inr (s, o) :: r => if len = 1 ∧ (k : Nat) < nL then some (st1 L (k : Nat) (.inr (s, o)), r) else none
    | _ => none
  | .astore k => match st with
    | .inr (s, o) :: r => if len = 2 ∧ k < nL then some (st1 L k (.inr (s, o)), r) else none
    | _ => none
  | .iadd => match st with
    | .inl (.int y) :: .inl (.int x) :: r => if len = 1 then some (L, .inl (.int (x + y)) :: r) else none
    | _ => none
  | .isub => match st with
    | .inl (.int y) :: .inl (.int x) :: r => if len = 1 then some (L, .inl (.int (x - y)) :: r) else none
    | _ => none
  | .imul => match st with
    | .inl (.int y) :: .inl (.int x) :: r => if len = 1 then some (L, .inl (.int (x * y)) :: r) else none
    | _ => none
  | .iand => match st with
    | .inl (.int y) :: .inl (.int x) :: r => if len = 1 then some (L, .inl (.int (x &&& y)) :: r) else none
    | _ => none
  | .ior => match st with
    | .inl (.int y) :: .inl (.int x) :: r => if len = 1 then some (L, .inl (.int (x ||| y)) :: r) else none
    | _ => none
  | .ishl => match st with
    | .inl (.int y) :: .inl (.int x) :: r => if len = 1 then some (L, .inl (.int (x <<< (y &&& 31))) :: r) else none
    | _ => none
  | .ishr => match st with
    | .inl (.int y) :: .inl (.int x) :: r => if len = 1 then some (L, .inl (.int (x >>> (y &&& 31))) :: r) else none
    | _ => none
  | .lcmp => match st with
    | .inl (.long y) :: .inl (.long x) :: r => if len = 1 then some (L, .inl (.int (lg_cmp x y)) :: r) else none
    | _ => none
  | .dcmp op => match st with
    | .inl (.double y) :: .inl (.double x) :: r => if len = 1 then some (L, .inl (.int (Op.cmpValue (FP.dcmp x y) op)) :: r) else none
    | _ => none
  | .i2l => match st with
    | .inl (.int x) :: r => if len = 1 then some (L, .inl (.long x.toInt64) :: r) else none
    | _ => none
  | .i2d => match st with
    | .inl (.int x) :: r => if len = 1 then some (L, .inl (.double (FP.i2d x)) :: r) else none
    | _ => none
  | .dup => match st with
    | .inl (.int x) :: r => if len = 1 then some (L, .inl (.int x) :: .inl (.int x) :: r) else none
    | .inr (s, o) :: r => if len = 1 then some (L, .inr (s, o) :: .inr (s, o) :: r) else none
    | _ => none
  | .pop => match st with
    | .inl (.int x) :: r => if len = 1 then some (L, r) else none
    | .inr (s, o) :: r => if len = 1 then some (L, r) else none
    | _ => none
  | .dup2 => match st with
    | .inl (.int x) :: .inr (s, o) :: r => if len = 1 then some (L, .inl (.int x) :: .inr (s, o) :: .inl (.int x) :: .inr (s, o) :: r) else none
    | _ => none
  | .iinc k n => match lkL L k with
    | some (.inl (.int x)) => if len = 3 ∧ k < nL then some (st1 L k (.inl (.int (x + Int32.ofInt n))), st) else none
    | _ => none
  | _ => none
theorem cy_x1_ok {len : Nat} {i : Instr} {L' : List (Nat × AV)} {st' : List AV} (hd : decode (mC M) pc = .ok (i, len)) (hx : cy_x1 (mN M) len i L st = some (L', st')) (k : WP g M d uc us (pc + len) L' st' h Φ) : WP g M d uc us pc L st h Φ := by
  unfold cy_x1 at hx
  split at hx
  · split at hx
    · rename_i hq; cases hq; cases hx; exact wx_iconst hd k
    · cases hx
  · split at hx
    · rename_i hq; cases hq; cases hx; exact wx_bipush hd k
    · cases hx
  · split at hx
    · rename_i hq; cases hq; cases hx; exact wx_sipush hd k
    · cases hx
  · split at hx
    · rename_i hq; cases hq; cases hx; exact wx_lconst hd k
    · cases hx
  · split at hx
    · rename_i h1
      split at hx
      · rename_i hq; cases hq; cases hx; exact wx_iload_n hd h1 k
      · cases hx
    · cases hx
  · split at hx
    · rename_i h1
      split at hx
      · rename_i hq; cases hq; cases hx; exact wx_iload hd h1 k
      · cases hx
    · cases hx
  · split at hx
    · rename_i h1
      split at hx
      · rename_i hq; cases hq; cases hx; exact wx_dload_n hd h1 k
      · cases hx
    · cases hx
  · split at hx
    · rename_i h1
      split at hx
      · rename_i hq; cases hq; cases hx; exact wx_dload hd h1 k
      · cases hx
    · cases hx
  · split at hx
    · rename_i h1
      split at hx
      · rename_i hq; cases hq; cases hx; exact wx_aload_n hd h1 k
      · cases hx
    · cases hx
  · split at hx
    · rename_i h1
      split at hx
      · rename_i hq; cases hq; cases hx; exact wx_aload hd h1 k
      · cases hx
    · cases hx
  · split at hx
    · split at hx
      · rename_i hq; obtain ⟨hq, hn⟩ := hq; cases hq; cases hx; exact wx_istore_n hd hn k
      · cases hx
    · cases hx
  · split at hx
    · split at hx
      · rename_i hq; obtain ⟨hq, hn⟩ := hq; cases hq; cases hx; exact wx_istore hd hn k
      · cases hx
    · cases hx
  · split at hx
    · split at hx
      · rename_i hq; obtain ⟨hq, hn⟩ := hq; cases hq; cases hx; exact wx_dstore_n hd hn k
      · cases hx
    · cases hx
  · split at hx
    · split at hx
      · rename_i hq; obtain ⟨hq, hn⟩ := hq; cases hq; cases hx; exact wx_dstore hd hn k
      · cases hx
    · cases hx
  · split at hx
    · split at hx
      · rename_i hq; obtain ⟨hq, hn⟩ := hq; cases hq; cases hx; exact wx_astore_n hd hn k
      · cases hx
    · cases hx
  · split at hx
    · split at hx
      · rename_i hq; obtain ⟨hq, hn⟩ := hq; cases hq; cases hx; exact wx_astore hd hn k
      · cases hx
    · cases hx
  · split at hx
    · split at hx
      · rename_i hq; cases hq; cases hx; exact wx_iadd hd k
      · cases hx
    · cases hx
  · split at hx
    · split at hx
      · rename_i hq; cases hq; cases hx; exact wx_isub hd k
      · cases hx
    · cases hx
  · split at hx
    · split at hx
      · rename_i hq; cases hq; cases hx; exact wx_imul hd k
      · cases hx
    · cases hx
  · split at hx
    · split at hx
      · rename_i hq; cases hq; cases hx; exact wx_iand hd k
      · cases hx
    · cases hx
  · split at hx
    · split at hx
      · rename_i hq; cases hq; cases hx; exact wx_ior hd k
      · cases hx
    · cases hx
  · split at hx
    · split at hx
      · rename_i hq; cases hq; cases hx; exact wx_ishl hd k
      · cases hx
    · cases hx
  · split at hx
    · split at hx
      · rename_i hq; cases hq; cases hx; exact wx_ishr hd k
      · cases hx
    · cases hx
  · split at hx
    · split at hx
      · rename_i hq; cases hq; cases hx; exact wx_lcmp hd k
      · cases hx
    · cases hx
  · split at hx
    · split at hx
      · rename_i hq; cases hq; cases hx; exact wx_dcmp hd k
      · cases hx
    · cases hx
  · split at hx
    · split at hx
      · rename_i hq; cases hq; cases hx; exact wx_i2l hd k
      · cases hx
    · cases hx
  · split at hx
    · split at hx
      · rename_i hq; cases hq; cases hx; exact wx_i2d hd k
      · cases hx
    · cases hx
  · split at hx
    · split at hx
      next hq => cases hq; cases hx; exact wx_dup rfl hd k
      next => cases hx
    · split at hx
      next hq => cases hq; cases hx; exact wx_dup rfl hd k
      next => cases hx
    · cases hx
  · split at hx
    · split at hx
      next hq => cases hq; cases hx; exact wx_pop rfl hd k
      next => cases hx
    · split at hx
      next hq => cases hq; cases hx; exact wx_pop rfl hd k
      next => cases hx
    · cases hx
  · split at hx
    · split at hx
      next hq => cases hq; cases hx; exact wx_dup2 rfl rfl hd k
      next => cases hx
    · cases hx
  · split at hx
    next h1 =>
      split at hx
      next hq => obtain ⟨hq, hn⟩ := hq; cases hq; cases hx; exact wx_iinc hd h1 hn k
      next => cases hx
    next => cases hx
  · cases hx
def cy_xs (nL : Nat) : List (Instr × Nat) → List (Nat × AV) × List AV → Option (List (Nat × AV) × List AV)
  | [], c => some c
  | (i, len) :: r, (L, st) => match cy_x1 nL len i L st with
    | some c => cy_xs nL r c
    | none => none
def cy_dc (cc : ByteArray) : Nat → List (Instr × Nat) → Prop
  | _, [] => True
  | pc, (i, len) :: r => decode cc pc = .ok (i, len) ∧ cy_dc cc (pc + len) r
def cy_ln2 : List (Instr × Nat) → Nat
  | [] => 0
  | (_, len) :: r => len + cy_ln2 r
theorem wp_run : ∀ (is : List (Instr × Nat)) {pc pc' : Nat} {L L' : List (Nat × AV)} {st st' : List AV}, cy_dc (mC M) pc is → cy_xs (mN M) is (L, st) = some (L', st') → pc + cy_ln2 is = pc' → WP g M d uc us pc' L' st' h Φ → WP g M d uc us pc L st h Φ := by
  intro is
  induction is with
  | nil =>
    intro pc pc' L L' st st' _ hx hp k
    cases hx
    cases hp
    exact k
  | cons q r ih =>
    intro pc pc' L L' st st' hd hx hp k
    obtain ⟨i, len⟩ := q
    unfold cy_xs at hx
    split at hx
    next c h1 =>
      obtain ⟨L1, st1⟩ := c
      refine cy_x1_ok hd.1 h1 (ih hd.2 hx ?_ k)
      rw [← hp]
      simp only [cy_ln2]
      omega
    next => cases hx
end PLAIN
