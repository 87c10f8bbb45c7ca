/-! ===== own: the judgement over the law's world (parts 11 and 12 once more) ===== -/
def cl_Qc (g : GT) (Φ : Rs → Wd → Prop) (ad0 : Nat → Nat → Nat) (cn0 : Nat → Nat) : Array Value → State → Outcome → State → Prop := fun _ st o t =>
  st.heap.size ≤ t.heap.size ∧ ∃ (r : Option AV) (h : Wd) (ad : Nat → Nat → Nat), Φ (.inl r) h ∧ o = .returned (r.map (cy_cv ad)) ∧ (∀ v, r = some v → cy_wf cnL v) ∧ RelL g ad h t.heap ∧ Ext ad0 cn0 ad cnL
def cl_XC (g : GT) (Φ : Rs → Wd → Prop) (ad0 : Nat → Nat → Nat) (cn0 : Nat → Nat) : String → State → State → Prop := fun E st t =>
  st.heap.size ≤ t.heap.size ∧ ∃ (h : Wd) (ad : Nat → Nat → Nat), Φ (.inr E) h ∧ RelL g ad h t.heap ∧ Ext ad0 cn0 ad cnL
def cl_Fi (g : GT) (M : MT) (Φ : Rs → Wd → Prop) (ad0 : Nat → Nat → Nat) (cn0 : Nat → Nat) (below : List Frame) (args : Array Value) (s : State) (R : Room) : State → Prop :=
  if mL M = 0 then vx_MQ below (cl_Qc g Φ ad0 cn0) (cl_XC g Φ ad0 cn0) args s R.cells R.slots (cy_A g) else lw_Z below args s
def WL (g : GT) (M : MT) (d uc us : Nat) (pc : Nat) (L : List (Nat × AV)) (st : List AV) (h : Wd) (Φ : Rs → Wd → Prop) : Prop :=
  SF g → ∀ (p : Program) (e : Env) (R : Room) (s : State) (m : MethodId) (args : Array Value) (below : List Frame) (meth : Method) (c : Code) (H : Heap) (locs : List Loc) (cells slots : Nat) (ls : Array Slot) (ad ad0 : Nat → Nat → Nat) (cn0 : Nat → Nat),
    cy_En g M p s m args meth c → d ≤ R.frames → 64 * d ≤ R.locals → cells + uc ≤ R.cells → slots + us ≤ R.slots → (mL M ≠ 0 → R = room_1) → Ext ad0 cn0 ad cnL → RelL g ad h H → cy_B g ≤ s.heap.size → va_S (cy_A g) s.heap H locs →
    lv_has ls (mN M) (L.map (fun q => (q.1, cy_cv ad q.2))) → (∀ q ∈ L, cy_wf cnL q.2) → (∀ v ∈ st, cy_wf cnL v) →
    W p (cy_l g) e R s m args below meth c H locs cells slots (cl_Fi g M Φ ad0 cn0 below args s R) (F0 m pc ls (st.map (cy_cv ad)))
def CL (g : GT) (M : MT) (d bc bs : Nat) (av : List AV) (h : Wd) (Φ : Rs → Wd → Prop) : Prop :=
  SF g → ∀ ad : Nat → Nat → Nat, (∀ v ∈ av, cy_wf cnL v) →
    vx_Met (cy_l g) (mY M) [cy_word M] { frames := d, cells := bc, slots := bs, locals := 64 * d } (va_Pc (av.map (cy_cv ad)) (fun U => RelL g ad h U.heap ∧ (cy_s g).WarmedH U.vm)) (cl_Qc g Φ ad cnL) (cl_XC g Φ ad cnL) bc bs (cy_A g)
theorem cl_body {g : GT} {M : MT} {d bc bs : Nat} {av : List AV} {h : Wd} {Φ : Rs → Wd → Prop} (hO : (mY M).cls = mO M) (hL : mL M = 0) (hp : plainName (mY M).cls = true) (hn : (lg_sl (av.map (cy_cv fun _ _ => 0))).length ≤ mN M)
    (k : WL g M d bc bs 0 (cy_ar 0 av) [] h Φ) : CL g M d bc bs av h Φ := by
  intro hg ad hwf
  have hlen : ∀ vs : List AV, (lg_sl (vs.map (cy_cv ad))).length = (lg_sl (vs.map (cy_cv fun _ _ => 0))).length := by
    intro vs
    induction vs with
    | nil => rfl
    | cons v vs ih =>
      simp only [lg_sl, List.map_cons, List.flatMap_cons, List.length_append, cy_ct_cv] at ih ⊢
      rw [ih]
      split <;> rfl
  have main : ∀ (p : Program) (e : Env) (s : State) (m : MethodId) (args : Array Value) (below : List Frame) (meth : Method) (c : Code) (s₁ : State), BodyLoose p (cy_l g) (mY M) (headSpec [cy_word M] { frames := d, cells := bc, slots := bs, locals := 64 * d }) (mC M) (mN M) (mR M) e s m args below meth c s₁ → c.maxLocals = mN M → c.exceptionTable.toList = tableOf (mH M) → va_Pc (av.map (cy_cv ad)) (fun U => RelL g ad h U.heap ∧ (cy_s g).WarmedH U.vm) args s →
      W p (cy_l g) e { frames := d, cells := bc, slots := bs, locals := 64 * d } s m args below meth c s.heap [] 0 0 (vx_MQ below (cl_Qc g Φ ad cnL) (cl_XC g Φ ad cnL) args s bc bs (cy_A g)) (entryFrame m args (mN M)) := by
    intro p e s m args below meth c s₁ B hml ht hP
    obtain ⟨rfl, hR, hW⟩ := hP
    have hl := lv_entry (av.map (cy_cv ad)) (n := mN M) (by rw [hlen]; exact hn)
    rw [lg_entry_eq]
    generalize ((lg_sl (av.map (cy_cv ad)) ++ List.replicate (mN M - (lg_sl (av.map (cy_cv ad))).length) Slot.unset).toArray) = ls at hl ⊢
    rw [cy_ar_cv] at hl
    have K := k hg p e { frames := d, cells := bc, slots := bs, locals := 64 * d } s m (av.map (cy_cv ad)).toArray below meth c s.heap [] 0 0 ls ad ad cnL
      ⟨B.exec, B.bytes, hml, B.returns, by rw [← hO]; exact findClass_of_methodNamed B.named, B.notSynchronized, hW, fun _ => ⟨(name_of_methodNamed B.named B.method).1, ht⟩, fun z => absurd hL z⟩
      (Nat.le_refl _) (Nat.le_refl _) (Nat.le_of_eq (Nat.zero_add _)) (Nat.le_of_eq (Nat.zero_add _)) (fun z => absurd hL z) (Ext.refl _ _) hR hR.sz va_S.rf hl (fun q hq => hwf _ (cy_ar_mem _ _ _ hq)) (fun v hv => by cases hv)
    simp only [cl_Fi, hL, if_true] at K
    exact K
  unfold cy_word at main ⊢
  cases hh : mH M with
  | nil =>
    rw [hh] at main
    refine vx_ofW hp rfl ?_
    intro p e s m args below meth c s₁ B hml ht hP
    exact main p e s m args below meth c s₁ B hml (by
      cases hx : c.exceptionTable.toList with
      | nil => rfl
      | cons a b => exact absurd (by rw [hx]; exact List.mem_cons_self) (ht a)) hP
  | cons q r =>
    rw [hh] at main
    refine vx_ofWH hp rfl ?_
    intro p e s m args below meth c s₁ B hml hP
    exact main p e s m args below meth c s₁ B hml (vx_table (x := mY M) B (atoms_spec B.pre _ List.mem_cons_self)) hP

section LPLAIN
variable {g : GT} {M : MT} {d uc us pc : Nat} {L : List (Nat × AV)} {st : List AV} {h : Wd} {Φ : Rs → Wd → Prop}

theorem wq_step {pc' : Nat} {L' : List (Nat × AV)} {st' : List AV}
    (hwf : ∀ cn : Nat → Nat, (∀ q ∈ L, cy_wf cn q.2) → (∀ v ∈ st, cy_wf cn v) → (∀ q ∈ L', cy_wf cn q.2) ∧ (∀ v ∈ st', cy_wf cn v))
    (hstep : ∀ (p : Program) (l : Launch) (e : Env) (R : Room) (s : State) (m : MethodId) (args : Array Value) (below : List Frame) (meth : Method) (c : Code) (H : Heap) (locs : List Loc) (cells slots : Nat) (Q : State → Prop) (ad : Nat → Nat → Nat) (ls : Array Slot),
      p.tables.exec = Jvm.exec → c.code = mC M → lv_has ls (mN M) (L.map (fun q => (q.1, cy_cv ad q.2))) → (∀ ls' : Array Slot, lv_has ls' (mN M) (L'.map (fun q => (q.1, cy_cv ad q.2))) → W p l e R s m args below meth c H locs cells slots Q (F0 m pc' ls' (st'.map (cy_cv ad)))) → W p l e R s m args below meth c H locs cells slots Q (F0 m pc ls (st.map (cy_cv ad))))
    (k : WL g M d uc us pc' L' st' h Φ) : WL g M d uc us pc L st h Φ := by
  intro hg p e R s m args below meth c H locs cells slots ls ad ad0 cn0 hE hd hdl hc hs hr hx hR hB hS hl hwL hwS
  obtain ⟨w1, w2⟩ := hwf _ hwL hwS
  exact hstep p (cy_l g) e R s m args below meth c H locs cells slots _ ad ls hE.1 hE.2.1 hl (fun ls' hl' => k hg p e R s m args below meth c H locs cells slots ls' ad ad0 cn0 hE hd hdl hc hs hr hx hR hB hS hl' w1 w2)

theorem wl_iconst {n : Int} (hd : decode (mC M) pc = .ok (.iconst n, 1)) (k : WL g M d uc us (pc + 1) L (.inl (.int (Int32.ofInt n)) :: st) h Φ) : WL g M d uc us pc L st h Φ :=
  wq_step (fun _ a b => ⟨a, cy_push cy_num b⟩) (fun _ _ _ _ _ _ _ _ _ _ _ _ _ _ _ _ _ hx hb hl kk => lv_iconst hx hb hd rfl (kk _ hl)) k
theorem wl_bipush {n : Int} (hd : decode (mC M) pc = .ok (.bipush n, 2)) (k : WL g M d uc us (pc + 2) L (.inl (.int (Int8.ofInt n).toInt32) :: st) h Φ) : WL g M d uc us pc L st h Φ :=
  wq_step (fun _ a b => ⟨a, cy_push cy_num b⟩) (fun _ _ _ _ _ _ _ _ _ _ _ _ _ _ _ _ _ hx hb hl kk => lv_bipush hx hb hd rfl (kk _ hl)) k
theorem wl_sipush {n : Int} (hd : decode (mC M) pc = .ok (.sipush n, 3)) (k : WL g M d uc us (pc + 3) L (.inl (.int (Int16.ofInt n).toInt32) :: st) h Φ) : WL g M d uc us pc L st h Φ :=
  wq_step (fun _ a b => ⟨a, cy_push cy_num b⟩) (fun _ _ _ _ _ _ _ _ _ _ _ _ _ _ _ _ _ hx hb hl kk => lv_sipush hx hb hd rfl (kk _ hl)) k
theorem wl_lconst {n : Fin 2} (hd : decode (mC M) pc = .ok (.lconst n, 1)) (k : WL g M d uc us (pc + 1) L (.inl (.long (Int64.ofNat (n : Nat))) :: st) h Φ) : WL g M d uc us pc L st h Φ :=
  wq_step (fun _ a b => ⟨a, cy_push cy_num b⟩) (fun _ _ _ _ _ _ _ _ _ _ _ _ _ _ _ _ _ hx hb hl kk => lv_lconst hx hb hd rfl (kk _ hl)) k
theorem wl_dconst0 (hd : decode (mC M) pc = .ok (.dconst 0, 1)) (k : WL g M d uc us (pc + 1) L (.inl (.double FP.dconst0) :: st) h Φ) : WL g M d uc us pc L st h Φ :=
  wq_step (fun _ a b => ⟨a, cy_push cy_num b⟩) (fun _ _ _ _ _ _ _ _ _ _ _ _ _ _ _ _ _ hx hb hl kk => lv_dconst0 hx hb hd (kk _ hl)) k
theorem wl_dconst1 (hd : decode (mC M) pc = .ok (.dconst 1, 1)) (k : WL g M d uc us (pc + 1) L (.inl (.double FP.dconst1) :: st) h Φ) : WL g M d uc us pc L st h Φ :=
  wq_step (fun _ a b => ⟨a, cy_push cy_num b⟩) (fun _ _ _ _ _ _ _ _ _ _ _ _ _ _ _ _ _ hx hb hl kk => lv_dconst1 hx hb hd (kk _ hl)) k
theorem wl_null {s : Nat} (hs : s ≠ 13 ∧ s ≠ 14) (hd : decode (mC M) pc = .ok (.aconst_null, 1)) (k : WL g M d uc us (pc + 1) L (.inr (s, none) :: st) h Φ) : WL g M d uc us pc L st h Φ :=
  wq_step (fun _ a b => ⟨a, cy_push (cy_nul hs) b⟩) (fun _ _ _ _ _ _ _ _ _ _ _ _ _ _ _ _ _ hx hb hl kk => lv_null hx hb hd (kk _ hl)) k
theorem wl_iload_n {i : Fin 4} {x : Int32} (hd : decode (mC M) pc = .ok (.iload_n i, 1)) (h1 : lkL L (i : Nat) = some (.inl (.int x))) (k : WL g M d uc us (pc + 1) L (.inl (.int x) :: st) h Φ) : WL g M d uc us pc L st h Φ :=
  wq_step (fun _ a b => ⟨a, cy_push cy_num b⟩) (fun _ _ _ _ _ _ _ _ _ _ _ _ _ _ _ _ _ hx hb hl kk => lv_iload_n hx hb hd rfl (cy_lk hl h1) (kk _ hl)) k
theorem wl_iload {i : Nat} {x : Int32} (hd : decode (mC M) pc = .ok (.iload i, 2)) (h1 : lkL L i = some (.inl (.int x))) (k : WL g M d uc us (pc + 2) L (.inl (.int x) :: st) h Φ) : WL g M d uc us pc L st h Φ :=
  wq_step (fun _ a b => ⟨a, cy_push cy_num b⟩) (fun _ _ _ _ _ _ _ _ _ _ _ _ _ _ _ _ _ hx hb hl kk => lv_iload hx hb hd (cy_lk hl h1) (kk _ hl)) k
theorem wl_istore_n {i : Fin 4} {x : Int32} (hd : decode (mC M) pc = .ok (.istore_n i, 1)) (hn : (i : Nat) < mN M) (k : WL g M d uc us (pc + 1) (st1 L (i : Nat) (.inl (.int x))) st h Φ) : WL g M d uc us pc L (.inl (.int x) :: st) h Φ :=
  wq_step (fun _ a b => ⟨st1_wf a cy_num, cy_pop b⟩) (fun _ _ _ _ _ _ _ _ _ _ _ _ _ _ _ ad _ hx hb hl kk => lv_istore_n hx hb hd rfl hl hn (st1_cv ad L (i : Nat) (.inl (.int x))) kk) k
theorem wl_istore {i : Nat} {x : Int32} (hd : decode (mC M) pc = .ok (.istore i, 2)) (hn : i < mN M) (k : WL g M d uc us (pc + 2) (st1 L i (.inl (.int x))) st h Φ) : WL g M d uc us pc L (.inl (.int x) :: st) h Φ :=
  wq_step (fun _ a b => ⟨st1_wf a cy_num, cy_pop b⟩) (fun _ _ _ _ _ _ _ _ _ _ _ _ _ _ _ ad _ hx hb hl kk => lv_istore hx hb hd hl hn (st1_cv ad L i (.inl (.int x))) kk) k
theorem wl_lload_n {i : Fin 4} {x : Int64} (hd : decode (mC M) pc = .ok (.lload_n i, 1)) (h1 : lkL L (i : Nat) = some (.inl (.long x))) (k : WL g M d uc us (pc + 1) L (.inl (.long x) :: st) h Φ) : WL g M d uc us pc L st h Φ :=
  wq_step (fun _ a b => ⟨a, cy_push cy_num b⟩) (fun _ _ _ _ _ _ _ _ _ _ _ _ _ _ _ _ _ hx hb hl kk => lv_lload_n hx hb hd rfl (cy_lk hl h1) (kk _ hl)) k
theorem wl_lload {i : Nat} {x : Int64} (hd : decode (mC M) pc = .ok (.lload i, 2)) (h1 : lkL L i = some (.inl (.long x))) (k : WL g M d uc us (pc + 2) L (.inl (.long x) :: st) h Φ) : WL g M d uc us pc L st h Φ :=
  wq_step (fun _ a b => ⟨a, cy_push cy_num b⟩) (fun _ _ _ _ _ _ _ _ _ _ _ _ _ _ _ _ _ hx hb hl kk => lv_lload hx hb hd (cy_lk hl h1) (kk _ hl)) k
theorem wl_lstore_n {i : Fin 4} {x : Int64} (hd : decode (mC M) pc = .ok (.lstore_n i, 1)) (hn : (i : Nat) + 1 < mN M) (k : WL g M d uc us (pc + 1) (st2 L (i : Nat) (.inl (.long x))) st h Φ) : WL g M d uc us pc L (.inl (.long x) :: st) h Φ :=
  wq_step (fun _ a b => ⟨st2_wf a cy_num, cy_pop b⟩) (fun _ _ _ _ _ _ _ _ _ _ _ _ _ _ _ ad _ hx hb hl kk => lv_lstore_n hx hb hd rfl hl hn (st2_cv ad L (i : Nat) (.inl (.long x))) kk) k
theorem wl_lstore {i : Nat} {x : Int64} (hd : decode (mC M) pc = .ok (.lstore i, 2)) (hn : i + 1 < mN M) (k : WL g M d uc us (pc + 2) (st2 L i (.inl (.long x))) st h Φ) : WL g M d uc us pc L (.inl (.long x) :: st) h Φ :=
  wq_step (fun _ a b => ⟨st2_wf a cy_num, cy_pop b⟩) (fun _ _ _ _ _ _ _ _ _ _ _ _ _ _ _ ad _ hx hb hl kk => lv_lstore hx hb hd hl hn (st2_cv ad L i (.inl (.long x))) kk) k
theorem wl_dload_n {i : Fin 4} {x : UInt64} (hd : decode (mC M) pc = .ok (.dload_n i, 1)) (h1 : lkL L (i : Nat) = some (.inl (.double x))) (k : WL g M d uc us (pc + 1) L (.inl (.double x) :: st) h Φ) : WL g M d uc us pc L st h Φ :=
  wq_step (fun _ a b => ⟨a, cy_push cy_num b⟩) (fun _ _ _ _ _ _ _ _ _ _ _ _ _ _ _ _ _ hx hb hl kk => lv_dload_n hx hb hd rfl (cy_lk hl h1) (kk _ hl)) k
theorem wl_dload {i : Nat} {x : UInt64} (hd : decode (mC M) pc = .ok (.dload i, 2)) (h1 : lkL L i = some (.inl (.double x))) (k : WL g M d uc us (pc + 2) L (.inl (.double x) :: st) h Φ) : WL g M d uc us pc L st h Φ :=
  wq_step (fun _ a b => ⟨a, cy_push cy_num b⟩) (fun _ _ _ _ _ _ _ _ _ _ _ _ _ _ _ _ _ hx hb hl kk => lv_dload hx hb hd (cy_lk hl h1) (kk _ hl)) k
theorem wl_dstore_n {i : Fin 4} {x : UInt64} (hd : decode (mC M) pc = .ok (.dstore_n i, 1)) (hn : (i : Nat) + 1 < mN M) (k : WL g M d uc us (pc + 1) (st2 L (i : Nat) (.inl (.double x))) st h Φ) : WL g M d uc us pc L (.inl (.double x) :: st) h Φ :=
  wq_step (fun _ a b => ⟨st2_wf a cy_num, cy_pop b⟩) (fun _ _ _ _ _ _ _ _ _ _ _ _ _ _ _ ad _ hx hb hl kk => lv_dstore_n hx hb hd rfl hl hn (st2_cv ad L (i : Nat) (.inl (.double x))) kk) k
theorem wl_dstore {i : Nat} {x : UInt64} (hd : decode (mC M) pc = .ok (.dstore i, 2)) (hn : i + 1 < mN M) (k : WL g M d uc us (pc + 2) (st2 L i (.inl (.double x))) st h Φ) : WL g M d uc us pc L (.inl (.double x) :: st) h Φ :=
  wq_step (fun _ a b => ⟨st2_wf a cy_num, cy_pop b⟩) (fun _ _ _ _ _ _ _ _ _ _ _ _ _ _ _ ad _ hx hb hl kk => lv_dstore hx hb hd hl hn (st2_cv ad L i (.inl (.double x))) kk) k
theorem wl_aload_n {i : Fin 4} {s : Nat} {o : Option Nat} (hd : decode (mC M) pc = .ok (.aload_n i, 1)) (h1 : lkL L (i : Nat) = some (.inr (s, o))) (k : WL g M d uc us (pc + 1) L (.inr (s, o) :: st) h Φ) : WL g M d uc us pc L st h Φ :=
  wq_step (fun _ a b => ⟨a, cy_push (a _ (lkL_mem h1)) b⟩) (fun _ _ _ _ _ _ _ _ _ _ _ _ _ _ _ ad _ hx hb hl kk => by
    cases o with
    | none => exact lv_aload_nN hx hb hd rfl (cy_lk hl h1) (kk _ hl)
    | some j => exact lv_aload_n hx hb hd rfl (cy_lk hl h1) (kk _ hl)) k
theorem wl_aload {i : Nat} {s : Nat} {o : Option Nat} (hd : decode (mC M) pc = .ok (.aload i, 2)) (h1 : lkL L i = some (.inr (s, o))) (k : WL g M d uc us (pc + 2) L (.inr (s, o) :: st) h Φ) : WL g M d uc us pc L st h Φ :=
  wq_step (fun _ a b => ⟨a, cy_push (a _ (lkL_mem h1)) b⟩) (fun _ _ _ _ _ _ _ _ _ _ _ _ _ _ _ ad _ hx hb hl kk => by
    cases o with
    | none => exact lv_aloadN hx hb hd (cy_lk hl h1) (kk _ hl)
    | some j => exact lv_aload hx hb hd (cy_lk hl h1) (kk _ hl)) k
theorem wl_astore_n {i : Fin 4} {s : Nat} {o : Option Nat} (hd : decode (mC M) pc = .ok (.astore_n i, 1)) (hn : (i : Nat) < mN M) (k : WL g M d uc us (pc + 1) (st1 L (i : Nat) (.inr (s, o))) st h Φ) : WL g M d uc us pc L (.inr (s, o) :: st) h Φ :=
  wq_step (fun _ a b => ⟨st1_wf a (cy_top b), cy_pop b⟩) (fun _ _ _ _ _ _ _ _ _ _ _ _ _ _ _ ad _ hx hb hl kk => by
    cases o with
    | none => exact lv_astore_nN hx hb hd rfl hl hn (st1_cv ad L (i : Nat) (.inr (s, none))) kk
    | some j => exact lv_astore_n hx hb hd rfl hl hn (st1_cv ad L (i : Nat) (.inr (s, some j))) kk) k
theorem wl_astore {i : Nat} {s : Nat} {o : Option Nat} (hd : decode (mC M) pc = .ok (.astore i, 2)) (hn : i < mN M) (k : WL g M d uc us (pc + 2) (st1 L i (.inr (s, o))) st h Φ) : WL g M d uc us pc L (.inr (s, o) :: st) h Φ :=
  wq_step (fun _ a b => ⟨st1_wf a (cy_top b), cy_pop b⟩) (fun _ _ _ _ _ _ _ _ _ _ _ _ _ _ _ ad _ hx hb hl kk => by
    cases o with
    | none => exact lv_astoreN hx hb hd hl hn (st1_cv ad L i (.inr (s, none))) kk
    | some j => exact lv_astore hx hb hd hl hn (st1_cv ad L i (.inr (s, some j))) kk) k
theorem wl_iadd {x y : Int32} (hd : decode (mC M) pc = .ok (.iadd, 1)) (k : WL g M d uc us (pc + 1) L (.inl (.int (x + y)) :: st) h Φ) : WL g M d uc us pc L (.inl (.int y) :: .inl (.int x) :: st) h Φ :=
  wq_step (fun _ a b => ⟨a, cy_push cy_num (cy_pop (cy_pop b))⟩) (fun _ _ _ _ _ _ _ _ _ _ _ _ _ _ _ _ _ hx hb hl kk => lv_iadd hx hb hd (kk _ hl)) k
theorem wl_isub {x y : Int32} (hd : decode (mC M) pc = .ok (.isub, 1)) (k : WL g M d uc us (pc + 1) L (.inl (.int (x - y)) :: st) h Φ) : WL g M d uc us pc L (.inl (.int y) :: .inl (.int x) :: st) h Φ :=
  wq_step (fun _ a b => ⟨a, cy_push cy_num (cy_pop (cy_pop b))⟩) (fun _ _ _ _ _ _ _ _ _ _ _ _ _ _ _ _ _ hx hb hl kk => lv_isub hx hb hd (kk _ hl)) k
theorem wl_imul {x y : Int32} (hd : decode (mC M) pc = .ok (.imul, 1)) (k : WL g M d uc us (pc + 1) L (.inl (.int (x * y)) :: st) h Φ) : WL g M d uc us pc L (.inl (.int y) :: .inl (.int x) :: st) h Φ :=
  wq_step (fun _ a b => ⟨a, cy_push cy_num (cy_pop (cy_pop b))⟩) (fun _ _ _ _ _ _ _ _ _ _ _ _ _ _ _ _ _ hx hb hl kk => lv_imul hx hb hd (kk _ hl)) k
theorem wl_iand {x y : Int32} (hd : decode (mC M) pc = .ok (.iand, 1)) (k : WL g M d uc us (pc + 1) L (.inl (.int (x &&& y)) :: st) h Φ) : WL g M d uc us pc L (.inl (.int y) :: .inl (.int x) :: st) h Φ :=
  wq_step (fun _ a b => ⟨a, cy_push cy_num (cy_pop (cy_pop b))⟩) (fun _ _ _ _ _ _ _ _ _ _ _ _ _ _ _ _ _ hx hb hl kk => lv_iand hx hb hd (kk _ hl)) k
theorem wl_ior {x y : Int32} (hd : decode (mC M) pc = .ok (.ior, 1)) (k : WL g M d uc us (pc + 1) L (.inl (.int (x ||| y)) :: st) h Φ) : WL g M d uc us pc L (.inl (.int y) :: .inl (.int x) :: st) h Φ :=
  wq_step (fun _ a b => ⟨a, cy_push cy_num (cy_pop (cy_pop b))⟩) (fun _ _ _ _ _ _ _ _ _ _ _ _ _ _ _ _ _ hx hb hl kk => lv_ior hx hb hd (kk _ hl)) k
theorem wl_ishl {x y : Int32} (hd : decode (mC M) pc = .ok (.ishl, 1)) (k : WL g M d uc us (pc + 1) L (.inl (.int (x <<< (y &&& 31))) :: st) h Φ) : WL g M d uc us pc L (.inl (.int y) :: .inl (.int x) :: st) h Φ :=
  wq_step (fun _ a b => ⟨a, cy_push cy_num (cy_pop (cy_pop b))⟩) (fun _ _ _ _ _ _ _ _ _ _ _ _ _ _ _ _ _ hx hb hl kk => lv_ishl hx hb hd (kk _ hl)) k
theorem wl_ishr {x y : Int32} (hd : decode (mC M) pc = .ok (.ishr, 1)) (k : WL g M d uc us (pc + 1) L (.inl (.int (x >>> (y &&& 31))) :: st) h Φ) : WL g M d uc us pc L (.inl (.int y) :: .inl (.int x) :: st) h Φ :=
  wq_step (fun _ a b => ⟨a, cy_push cy_num (cy_pop (cy_pop b))⟩) (fun _ _ _ _ _ _ _ _ _ _ _ _ _ _ _ _ _ hx hb hl kk => lv_ishr hx hb hd (kk _ hl)) k
theorem wl_idiv {x y : Int32} (hne : ¬ y = 0) (hd : decode (mC M) pc = .ok (.idiv, 1)) (k : WL g M d uc us (pc + 1) L (.inl (.int (x / y)) :: st) h Φ) : WL g M d uc us pc L (.inl (.int y) :: .inl (.int x) :: st) h Φ :=
  wq_step (fun _ a b => ⟨a, cy_push cy_num (cy_pop (cy_pop b))⟩) (fun _ _ _ _ _ _ _ _ _ _ _ _ _ _ _ _ _ hx hb hl kk => lv_idiv hx hb hd hne (kk _ hl)) k
theorem wl_irem {x y : Int32} (hne : ¬ y = 0) (hd : decode (mC M) pc = .ok (.irem, 1)) (k : WL g M d uc us (pc + 1) L (.inl (.int (x - x / y * y)) :: st) h Φ) : WL g M d uc us pc L (.inl (.int y) :: .inl (.int x) :: st) h Φ :=
  wq_step (fun _ a b => ⟨a, cy_push cy_num (cy_pop (cy_pop b))⟩) (fun _ _ _ _ _ _ _ _ _ _ _ _ _ _ _ _ _ hx hb hl kk => lv_irem hx hb hd hne (kk _ hl)) k
theorem wl_lcmp {x y : Int64} (hd : decode (mC M) pc = .ok (.lcmp, 1)) (k : WL g M d uc us (pc + 1) L (.inl (.int (lg_cmp x y)) :: st) h Φ) : WL g M d uc us pc L (.inl (.long y) :: .inl (.long x) :: st) h Φ :=
  wq_step (fun _ a b => ⟨a, cy_push cy_num (cy_pop (cy_pop b))⟩) (fun _ _ _ _ _ _ _ _ _ _ _ _ _ _ _ _ _ hx hb hl kk => W.lcmp hx hb hd (kk _ hl)) k
theorem wl_dadd {x y : UInt64} (hne : vf_n64 (FP.dadd x y)) (hd : decode (mC M) pc = .ok (.dadd, 1)) (k : WL g M d uc us (pc + 1) L (.inl (.double (FP.dadd x y)) :: st) h Φ) : WL g M d uc us pc L (.inl (.double y) :: .inl (.double x) :: st) h Φ :=
  wq_step (fun _ a b => ⟨a, cy_push cy_num (cy_pop (cy_pop b))⟩) (fun _ _ _ _ _ _ _ _ _ _ _ _ _ _ _ _ _ hx hb hl kk => lv_dadd hx hb hd hne (kk _ hl)) k
theorem wl_dmul {x y : UInt64} (hne : vf_n64 (FP.dmul x y)) (hd : decode (mC M) pc = .ok (.dmul, 1)) (k : WL g M d uc us (pc + 1) L (.inl (.double (FP.dmul x y)) :: st) h Φ) : WL g M d uc us pc L (.inl (.double y) :: .inl (.double x) :: st) h Φ :=
  wq_step (fun _ a b => ⟨a, cy_push cy_num (cy_pop (cy_pop b))⟩) (fun _ _ _ _ _ _ _ _ _ _ _ _ _ _ _ _ _ hx hb hl kk => lv_dmul hx hb hd hne (kk _ hl)) k
theorem wl_ddiv {x y : UInt64} (hne : vf_n64 (FP.ddiv x y)) (hd : decode (mC M) pc = .ok (.ddiv, 1)) (k : WL g M d uc us (pc + 1) L (.inl (.double (FP.ddiv x y)) :: st) h Φ) : WL g M d uc us pc L (.inl (.double y) :: .inl (.double x) :: st) h Φ :=
  wq_step (fun _ a b => ⟨a, cy_push cy_num (cy_pop (cy_pop b))⟩) (fun _ _ _ _ _ _ _ _ _ _ _ _ _ _ _ _ _ hx hb hl kk => lv_ddiv hx hb hd hne (kk _ hl)) k
theorem wl_dcmp {x y : UInt64} {op : CmpOp} (hd : decode (mC M) pc = .ok (.dcmp op, 1)) (k : WL g M d uc us (pc + 1) L (.inl (.int (Op.cmpValue (FP.dcmp x y) op)) :: st) h Φ) : WL g M d uc us pc L (.inl (.double y) :: .inl (.double x) :: st) h Φ :=
  wq_step (fun _ a b => ⟨a, cy_push cy_num (cy_pop (cy_pop b))⟩) (fun _ _ _ _ _ _ _ _ _ _ _ _ _ _ _ _ _ hx hb hl kk => lv_dcmp hx hb hd (kk _ hl)) k
theorem wl_i2l {x : Int32} (hd : decode (mC M) pc = .ok (.i2l, 1)) (k : WL g M d uc us (pc + 1) L (.inl (.long (x.toInt64)) :: st) h Φ) : WL g M d uc us pc L (.inl (.int x) :: st) h Φ :=
  wq_step (fun _ a b => ⟨a, cy_push cy_num (cy_pop b)⟩) (fun _ _ _ _ _ _ _ _ _ _ _ _ _ _ _ _ _ hx hb hl kk => lv_i2l hx hb hd rfl (kk _ hl)) k
theorem wl_i2d {x : Int32} (hd : decode (mC M) pc = .ok (.i2d, 1)) (k : WL g M d uc us (pc + 1) L (.inl (.double (FP.i2d x)) :: st) h Φ) : WL g M d uc us pc L (.inl (.int x) :: st) h Φ :=
  wq_step (fun _ a b => ⟨a, cy_push cy_num (cy_pop b)⟩) (fun _ _ _ _ _ _ _ _ _ _ _ _ _ _ _ _ _ hx hb hl kk => lv_i2d hx hb hd (kk _ hl)) k
theorem wl_dup {v : AV} (hv : cy_ct v = 1) (hd : decode (mC M) pc = .ok (.dup, 1)) (k : WL g M d uc us (pc + 1) L (v :: v :: st) h Φ) : WL g M d uc us pc L (v :: st) h Φ :=
  wq_step (fun _ a b => ⟨a, cy_push (cy_top b) b⟩) (fun _ _ _ _ _ _ _ _ _ _ _ _ _ _ _ ad _ hx hb hl kk => lv_dup hx hb hd (by rw [cy_ct_cv]; exact hv) (kk _ hl)) k
theorem wl_dup2 {v w : AV} (hv : cy_ct v = 1) (hw : cy_ct w = 1) (hd : decode (mC M) pc = .ok (.dup2, 1)) (k : WL g M d uc us (pc + 1) L (v :: w :: v :: w :: st) h Φ) : WL g M d uc us pc L (v :: w :: st) h Φ :=
  wq_step (fun _ a b => ⟨a, cy_push (cy_top b) (cy_push (cy_top (cy_pop b)) b)⟩) (fun _ _ _ _ _ _ _ _ _ _ _ _ _ _ _ ad _ hx hb hl kk => lv_dup2_11 hx hb hd (by rw [cy_ct_cv]; exact hv) (by rw [cy_ct_cv]; exact hw) (kk _ hl)) k
theorem wl_pop {v : AV} (hv : cy_ct v = 1) (hd : decode (mC M) pc = .ok (.pop, 1)) (k : WL g M d uc us (pc + 1) L st h Φ) : WL g M d uc us pc L (v :: st) h Φ :=
  wq_step (fun _ a b => ⟨a, cy_pop b⟩) (fun _ _ _ _ _ _ _ _ _ _ _ _ _ _ _ ad _ hx hb hl kk => lv_pop hx hb hd (by rw [cy_ct_cv]; exact hv) (kk _ hl)) k
theorem wl_goto {off : Int} {tgt : Nat} (hd : decode (mC M) pc = .ok (.goto off, 3)) (ht : (pc : Int) + off = (tgt : Int)) (k : WL g M d uc us tgt L st h Φ) : WL g M d uc us pc L st h Φ :=
  wq_step (fun _ a b => ⟨a, b⟩) (fun _ _ _ _ _ _ _ _ _ _ _ _ _ _ _ _ _ hx hb hl kk => lv_goto hx hb hd ht (kk _ hl)) k
theorem wl_iinc {i : Nat} {n : Int} {x : Int32} (hd : decode (mC M) pc = .ok (.iinc i n, 3)) (h1 : lkL L i = some (.inl (.int x))) (hn : i < mN M) (k : WL g M d uc us (pc + 3) (st1 L i (.inl (.int (x + Int32.ofInt n)))) st h Φ) : WL g M d uc us pc L st h Φ :=
  wq_step (fun _ a b => ⟨st1_wf a cy_num, b⟩) (fun _ _ _ _ _ _ _ _ _ _ _ _ _ _ _ ad _ hx hb hl kk => by
    obtain ⟨k9, hk9⟩ := cy_place (ad := ad) h1
    exact lv_iinc hx hb hd hl hk9 rfl hn (st1_cv ad L i (.inl (.int (x + Int32.ofInt n)))) kk) k
theorem wq_fork {pc1 pc2 : Nat} {st' : List AV} {A B : Prop} (hp : ∀ cn : Nat → Nat, (∀ v ∈ st, cy_wf cn v) → ∀ v ∈ st', cy_wf cn v)
    (hstep : ∀ (p : Program) (l : Launch) (e : Env) (R : Room) (s : State) (m : MethodId) (args : Array Value) (below : List Frame) (meth : Method) (c : Code) (H : Heap) (locs : List Loc) (cells slots : Nat) (Q : State → Prop) (ad : Nat → Nat → Nat) (ls : Array Slot),
      p.tables.exec = Jvm.exec → c.code = mC M → (A → W p l e R s m args below meth c H locs cells slots Q (F0 m pc1 ls (st'.map (cy_cv ad)))) → (B → W p l e R s m args below meth c H locs cells slots Q (F0 m pc2 ls (st'.map (cy_cv ad)))) → W p l e R s m args below meth c H locs cells slots Q (F0 m pc ls (st.map (cy_cv ad))))
    (kt : A → WL g M d uc us pc1 L st' h Φ) (kf : B → WL g M d uc us pc2 L st' h Φ) : WL g M d uc us pc L st h Φ := by
  intro hg p e R s m args below meth c H locs cells slots ls ad ad0 cn0 hE hd hdl hc hs hr hx hR hB hS hl hwL hwS
  exact hstep p (cy_l g) e R s m args below meth c H locs cells slots _ ad ls hE.1 hE.2.1
    (fun a => kt a hg p e R s m args below meth c H locs cells slots ls ad ad0 cn0 hE hd hdl hc hs hr hx hR hB hS hl hwL (hp _ hwS))
    (fun b => kf b hg p e R s m args below meth c H locs cells slots ls ad ad0 cn0 hE hd hdl hc hs hr hx hR hB hS hl hwL (hp _ hwS))
theorem wl_if_eq {x : Int32} {off : Int} {tgt : Nat} (hd : decode (mC M) pc = .ok (.ifCond .eq off, 3)) (ht : (pc : Int) + off = (tgt : Int)) (kt : x = 0 → WL g M d uc us tgt L st h Φ) (kf : ¬ x = 0 → WL g M d uc us (pc + 3) L st h Φ) : WL g M d uc us pc L (.inl (.int x) :: st) h Φ :=
  wq_fork (fun _ b => cy_pop b) (fun _ _ _ _ _ _ _ _ _ _ _ _ _ _ _ _ _ hx hb a b => lv_if_eq hx hb hd ht a b) kt kf
theorem wl_icmp_eq {x y : Int32} {off : Int} {tgt : Nat} (hd : decode (mC M) pc = .ok (.if_icmp .eq off, 3)) (ht : (pc : Int) + off = (tgt : Int)) (kt : x = y → WL g M d uc us tgt L st h Φ) (kf : ¬ x = y → WL g M d uc us (pc + 3) L st h Φ) : WL g M d uc us pc L (.inl (.int y) :: .inl (.int x) :: st) h Φ :=
  wq_fork (fun _ b => cy_pop (cy_pop b)) (fun _ _ _ _ _ _ _ _ _ _ _ _ _ _ _ _ _ hx hb a b => lv_icmp_eq hx hb hd ht a b) kt kf
theorem wl_if_ne {x : Int32} {off : Int} {tgt : Nat} (hd : decode (mC M) pc = .ok (.ifCond .ne off, 3)) (ht : (pc : Int) + off = (tgt : Int)) (kt : ¬ x = 0 → WL g M d uc us tgt L st h Φ) (kf : x = 0 → WL g M d uc us (pc + 3) L st h Φ) : WL g M d uc us pc L (.inl (.int x) :: st) h Φ :=
  wq_fork (fun _ b => cy_pop b) (fun _ _ _ _ _ _ _ _ _ _ _ _ _ _ _ _ _ hx hb a b => lv_if_ne hx hb hd ht a b) kt kf
theorem wl_icmp_ne {x y : Int32} {off : Int} {tgt : Nat} (hd : decode (mC M) pc = .ok (.if_icmp .ne off, 3)) (ht : (pc : Int) + off = (tgt : Int)) (kt : ¬ x = y → WL g M d uc us tgt L st h Φ) (kf : x = y → WL g M d uc us (pc + 3) L st h Φ) : WL g M d uc us pc L (.inl (.int y) :: .inl (.int x) :: st) h Φ :=
  wq_fork (fun _ b => cy_pop (cy_pop b)) (fun _ _ _ _ _ _ _ _ _ _ _ _ _ _ _ _ _ hx hb a b => lv_icmp_ne hx hb hd ht a b) kt kf
theorem wl_if_lt {x : Int32} {off : Int} {tgt : Nat} (hd : decode (mC M) pc = .ok (.ifCond .lt off, 3)) (ht : (pc : Int) + off = (tgt : Int)) (kt : x < 0 → WL g M d uc us tgt L st h Φ) (kf : ¬ x < 0 → WL g M d uc us (pc + 3) L st h Φ) : WL g M d uc us pc L (.inl (.int x) :: st) h Φ :=
  wq_fork (fun _ b => cy_pop b) (fun _ _ _ _ _ _ _ _ _ _ _ _ _ _ _ _ _ hx hb a b => lv_if_lt hx hb hd ht a b) kt kf
theorem wl_icmp_lt {x y : Int32} {off : Int} {tgt : Nat} (hd : decode (mC M) pc = .ok (.if_icmp .lt off, 3)) (ht : (pc : Int) + off = (tgt : Int)) (kt : x < y → WL g M d uc us tgt L st h Φ) (kf : ¬ x < y → WL g M d uc us (pc + 3) L st h Φ) : WL g M d uc us pc L (.inl (.int y) :: .inl (.int x) :: st) h Φ :=
  wq_fork (fun _ b => cy_pop (cy_pop b)) (fun _ _ _ _ _ _ _ _ _ _ _ _ _ _ _ _ _ hx hb a b => lv_icmp_lt hx hb hd ht a b) kt kf
theorem wl_if_ge {x : Int32} {off : Int} {tgt : Nat} (hd : decode (mC M) pc = .ok (.ifCond .ge off, 3)) (ht : (pc : Int) + off = (tgt : Int)) (kt : 0 ≤ x → WL g M d uc us tgt L st h Φ) (kf : ¬ 0 ≤ x → WL g M d uc us (pc + 3) L st h Φ) : WL g M d uc us pc L (.inl (.int x) :: st) h Φ :=
  wq_fork (fun _ b => cy_pop b) (fun _ _ _ _ _ _ _ _ _ _ _ _ _ _ _ _ _ hx hb a b => lv_if_ge hx hb hd ht a b) kt kf
theorem wl_icmp_ge {x y : Int32} {off : Int} {tgt : Nat} (hd : decode (mC M) pc = .ok (.if_icmp .ge off, 3)) (ht : (pc : Int) + off = (tgt : Int)) (kt : y ≤ x → WL g M d uc us tgt L st h Φ) (kf : ¬ y ≤ x → WL g M d uc us (pc + 3) L st h Φ) : WL g M d uc us pc L (.inl (.int y) :: .inl (.int x) :: st) h Φ :=
  wq_fork (fun _ b => cy_pop (cy_pop b)) (fun _ _ _ _ _ _ _ _ _ _ _ _ _ _ _ _ _ hx hb a b => lv_icmp_ge hx hb hd ht a b) kt kf
theorem wl_if_gt {x : Int32} {off : Int} {tgt : Nat} (hd : decode (mC M) pc = .ok (.ifCond .gt off, 3)) (ht : (pc : Int) + off = (tgt : Int)) (kt : 0 < x → WL g M d uc us tgt L st h Φ) (kf : ¬ 0 < x → WL g M d uc us (pc + 3) L st h Φ) : WL g M d uc us pc L (.inl (.int x) :: st) h Φ :=
  wq_fork (fun _ b => cy_pop b) (fun _ _ _ _ _ _ _ _ _ _ _ _ _ _ _ _ _ hx hb a b => lv_if_gt hx hb hd ht a b) kt kf
theorem wl_icmp_gt {x y : Int32} {off : Int} {tgt : Nat} (hd : decode (mC M) pc = .ok (.if_icmp .gt off, 3)) (ht : (pc : Int) + off = (tgt : Int)) (kt : y < x → WL g M d uc us tgt L st h Φ) (kf : ¬ y < x → WL g M d uc us (pc + 3) L st h Φ) : WL g M d uc us pc L (.inl (.int y) :: .inl (.int x) :: st) h Φ :=
  wq_fork (fun _ b => cy_pop (cy_pop b)) (fun _ _ _ _ _ _ _ _ _ _ _ _ _ _ _ _ _ hx hb a b => lv_icmp_gt hx hb hd ht a b) kt kf
theorem wl_if_le {x : Int32} {off : Int} {tgt : Nat} (hd : decode (mC M) pc = .ok (.ifCond .le off, 3)) (ht : (pc : Int) + off = (tgt : Int)) (kt : x ≤ 0 → WL g M d uc us tgt L st h Φ) (kf : ¬ x ≤ 0 → WL g M d uc us (pc + 3) L st h Φ) : WL g M d uc us pc L (.inl (.int x) :: st) h Φ :=
  wq_fork (fun _ b => cy_pop b) (fun _ _ _ _ _ _ _ _ _ _ _ _ _ _ _ _ _ hx hb a b => lv_if_le hx hb hd ht a b) kt kf
theorem wl_icmp_le {x y : Int32} {off : Int} {tgt : Nat} (hd : decode (mC M) pc = .ok (.if_icmp .le off, 3)) (ht : (pc : Int) + off = (tgt : Int)) (kt : x ≤ y → WL g M d uc us tgt L st h Φ) (kf : ¬ x ≤ y → WL g M d uc us (pc + 3) L st h Φ) : WL g M d uc us pc L (.inl (.int y) :: .inl (.int x) :: st) h Φ :=
  wq_fork (fun _ b => cy_pop (cy_pop b)) (fun _ _ _ _ _ _ _ _ _ _ _ _ _ _ _ _ _ hx hb a b => lv_icmp_le hx hb hd ht a b) kt kf
theorem wl_ifnull {s : Nat} {o : Option Nat} {off : Int} {tgt : Nat} (hd : decode (mC M) pc = .ok (.ifnull off, 3)) (ht : (pc : Int) + off = (tgt : Int)) (kt : o = none → WL g M d uc us tgt L st h Φ) (kf : (∃ i, o = some i) → WL g M d uc us (pc + 3) L st h Φ) : WL g M d uc us pc L (.inr (s, o) :: st) h Φ :=
  wq_fork (fun _ b => cy_pop b) (fun _ _ _ _ _ _ _ _ _ _ _ _ _ _ _ ad _ hx hb a b => by
    cases o with
    | none => exact lv_ifnullN hx hb hd ht (a rfl)
    | some i => exact lv_ifnull hx hb hd (b ⟨i, rfl⟩)) kt kf
theorem wl_ifnonnull {s : Nat} {o : Option Nat} {off : Int} {tgt : Nat} (hd : decode (mC M) pc = .ok (.ifnonnull off, 3)) (ht : (pc : Int) + off = (tgt : Int)) (kt : (∃ i, o = some i) → WL g M d uc us tgt L st h Φ) (kf : o = none → WL g M d uc us (pc + 3) L st h Φ) : WL g M d uc us pc L (.inr (s, o) :: st) h Φ :=
  wq_fork (fun _ b => cy_pop b) (fun _ _ _ _ _ _ _ _ _ _ _ _ _ _ _ ad _ hx hb a b => by
    cases o with
    | none => exact lv_ifnonnullN hx hb hd (b rfl)
    | some i => exact lv_ifnonnull hx hb hd ht (a ⟨i, rfl⟩)) kt kf
theorem wl_tableIn {dflt lo hi : Int} {offs : Array Int} {len : Nat} {x : Int32} {off : Int} {tgt : Nat} (hd : decode (mC M) pc = .ok (.tableswitch dflt lo hi offs, len)) (h1 : ¬ x.toInt < lo) (h2 : ¬ hi < x.toInt) (ho : offs[(x.toInt - lo).toNat]? = some off) (ht : (pc : Int) + off = (tgt : Int)) (k : WL g M d uc us tgt L st h Φ) : WL g M d uc us pc L (.inl (.int x) :: st) h Φ :=
  wq_step (fun _ a b => ⟨a, cy_pop b⟩) (fun _ _ _ _ _ _ _ _ _ _ _ _ _ _ _ _ _ hx hb hl kk => lv_tableIn hx hb hd h1 h2 ho ht (kk _ hl)) k
theorem wl_tableOut {dflt lo hi : Int} {offs : Array Int} {len : Nat} {x : Int32} {tgt : Nat} (hd : decode (mC M) pc = .ok (.tableswitch dflt lo hi offs, len)) (h1 : x.toInt < lo ∨ hi < x.toInt) (ht : (pc : Int) + dflt = (tgt : Int)) (k : WL g M d uc us tgt L st h Φ) : WL g M d uc us pc L (.inl (.int x) :: st) h Φ :=
  wq_step (fun _ a b => ⟨a, cy_pop b⟩) (fun _ _ _ _ _ _ _ _ _ _ _ _ _ _ _ _ _ hx hb hl kk => lv_tableOut hx hb hd h1 ht (kk _ hl)) k
theorem wq_sub {L' : List (Nat × AV)} (ks : List Nat) (hL : ks.filterMap (fun k => L[k]?) = L') (k : WL g M d uc us pc L' st h Φ) : WL g M d uc us pc L st h Φ :=
  wq_step (fun _ a b => ⟨fun q hq => by
      rw [← hL] at hq
      obtain ⟨j, -, hj⟩ := List.mem_filterMap.mp hq
      exact a q (List.mem_of_getElem? hj), b⟩) (fun _ _ _ _ _ _ _ _ _ _ _ _ _ _ _ ad ls hx hb hl kk => by
    refine kk ls (lv_sub hl ks ?_)
    unfold lv_pick
    rw [← hL, List.map_filterMap]
    congr 1
    funext j
    rw [List.getElem?_map]) k
theorem wl_ldc {index : Nat} {v : Int32} (hw : Cond.constant (mO M) index v ∈ lw_tbl) (hd : decode (mC M) pc = .ok (.ldc index, 2)) (k : WL g M d uc us (pc + 2) L (.inl (.int v) :: st) h Φ) : WL g M d uc us pc L st h Φ := by
  intro hg p e R s m args below meth c H locs cells slots ls ad ad0 cn0 hE hd9 hdl hc hs hr hx hR hB hS hl hwL hwS
  exact lv_ldc hE.1 hE.2.1 hE.2.2.2.2.1 (cy_wd hg hE.2.2.2.2.2.2.1 hw (by rfl)) hd (k hg p e R s m args below meth c H locs cells slots ls ad ad0 cn0 hE hd9 hdl hc hs hr hx hR hB hS hl hwL (cy_push cy_num hwS))
theorem wl_ldc2d {index : Nat} {v : UInt64} (hw : Cond.constantDouble (mO M) index v ∈ lw_tbl) (hd : decode (mC M) pc = .ok (.ldc2_w index, 3)) (k : WL g M d uc us (pc + 3) L (.inl (.double v) :: st) h Φ) : WL g M d uc us pc L st h Φ := by
  intro hg p e R s m args below meth c H locs cells slots ls ad ad0 cn0 hE hd9 hdl hc hs hr hx hR hB hS hl hwL hwS
  exact lv_ldc2d hE.1 hE.2.1 hE.2.2.2.2.1 (cy_wd hg hE.2.2.2.2.2.2.1 hw (by rfl)) hd (k hg p e R s m args below meth c H locs cells slots ls ad ad0 cn0 hE hd9 hdl hc hs hr hx hR hB hS hl hwL (cy_push cy_num hwS))
theorem wq_end {r : Option AV} (hL : mL M = 0) (hΦ : Φ (.inl r) h) (hwr : ∀ cn : Nat → Nat, (∀ v ∈ st, cy_wf cn v) → ∀ v, r = some v → cy_wf cn v)
    (row : ∀ (p : Program) (l : Launch) (e : Env) (R : Room) (s : State) (m : MethodId) (args : Array Value) (below : List Frame) (meth : Method) (c : Code) (H : Heap) (locs : List Loc) (cells slots : Nat) (ad : Nat → Nat → Nat) (ls : Array Slot) (Qc : Array Value → State → Outcome → State → Prop) (free : Addr → Prop),
      p.tables.exec = Jvm.exec → c.code = mC M → meth.sig.returnType = mR M → meth.locks = false → (∀ t : State, t.heap = H → s.WarmedH t.vm → Qc args s (.returned (r.map (cy_cv ad))) t) → (∀ q ∈ locs, free q.base) → W p l e R s m args below meth c H locs cells slots (MQ below Qc args s cells slots free) (F0 m pc ls (st.map (cy_cv ad)))) : WL g M d uc us pc L st h Φ := by
  intro hg p e R s m args below meth c H locs cells slots ls ad ad0 cn0 hE hd9 hdl hc hs hr hx hR hB hS hl hwL hwS
  simp only [cl_Fi, hL, if_true]
  refine W.widen (k := R.cells) (n := R.slots) (by omega) (by omega) ?_
  refine vx_ret ?_
  exact row p (cy_l g) e R s m args below meth c H locs R.cells R.slots ad ls _ _ hE.1 hE.2.1 hE.2.2.2.1 hE.2.2.2.2.2.1 (fun t ht hW => ⟨by rw [ht]; exact hS.1, r, h, ad, hΦ, rfl, hwr _ hwS, by rw [ht]; exact hR, hx⟩) hS.2.2
theorem wl_iret {x : Int32} (hL : mL M = 0) (hr : mR M = some .int) (hd : decode (mC M) pc = .ok (.ireturn, 1)) (hΦ : Φ (.inl (some (.inl (.int x)))) h) : WL g M d uc us pc L [.inl (.int x)] h Φ :=
  wq_end hL hΦ (fun _ _ v e => by cases e; trivial) (fun _ _ _ _ _ _ _ _ _ _ _ _ _ _ ad _ _ _ hx hb hrt hlk hq hf => W.iret hx hb (hrt.trans hr) hq hf hd hlk)
theorem wl_zret {x : Int32} (hL : mL M = 0) (hr : mR M = some .boolean) (hn : narrow .boolean (.int x) = .int x) (hd : decode (mC M) pc = .ok (.ireturn, 1)) (hΦ : Φ (.inl (some (.inl (.int x)))) h) : WL g M d uc us pc L [.inl (.int x)] h Φ :=
  wq_end hL hΦ (fun _ _ v e => by cases e; trivial) (fun _ _ _ _ _ _ _ _ _ _ _ _ _ _ ad _ _ _ hx hb hrt hlk hq hf => W.zret hx hb (hrt.trans hr) hn hq hf hd hlk)
theorem wl_dret {x : UInt64} (hL : mL M = 0) (hr : mR M = some .double) (hd : decode (mC M) pc = .ok (.dreturn, 1)) (hΦ : Φ (.inl (some (.inl (.double x)))) h) : WL g M d uc us pc L [.inl (.double x)] h Φ :=
  wq_end hL hΦ (fun _ _ v e => by cases e; trivial) (fun _ _ _ _ _ _ _ _ _ _ _ _ _ _ ad _ _ _ hx hb hrt hlk hq hf => W.dret hx hb (hrt.trans hr) hq hf hd hlk)
theorem wl_aret {s : Nat} {o : Option Nat} {C : String} (hL : mL M = 0) (hr : mR M = some (.object C)) (hd : decode (mC M) pc = .ok (.areturn, 1)) (hΦ : Φ (.inl (some (.inr (s, o)))) h) : WL g M d uc us pc L [.inr (s, o)] h Φ :=
  wq_end hL hΦ (fun _ hw v e => by cases e; exact cy_top hw) (fun _ _ _ _ _ _ _ _ _ _ _ _ _ _ ad _ _ _ hx hb hrt hlk hq hf => W.aret hx hb (hrt.trans hr) (Or.inl ⟨_, rfl⟩) (va_rf_or _) hq hf hd hlk)
theorem wl_vret (hL : mL M = 0) (hr : mR M = none) (hd : decode (mC M) pc = .ok (.return_, 1)) (hΦ : Φ (.inl none) h) : WL g M d uc us pc L [] h Φ :=
  wq_end hL hΦ (fun _ _ v e => by cases e) (fun _ _ _ _ _ _ _ _ _ _ _ _ _ _ ad _ _ _ hx hb hrt hlk hq hf => W.vret hx hb (hrt.trans hr) hq hf hd hlk)

theorem cl_x1_ok {len : Nat} {i : Instr} {L' : List (Nat × AV)} {st' : List AV} (hd : decode (mC M) pc = .ok (i, len)) (hx : cy_x1 (mN M) len i L st = some (L', st')) (k : WL g M d uc us (pc + len) L' st' h Φ) : WL g M d uc us pc L st h Φ := by
  unfold cy_x1 at hx
  split at hx
  · split at hx
    · rename_i hq; cases hq; cases hx; exact wl_iconst hd k
    · cases hx
  · split at hx
    · rename_i hq; cases hq; cases hx; exact wl_bipush hd k
    · cases hx
  · split at hx
    · rename_i hq; cases hq; cases hx; exact wl_sipush hd k
    · cases hx
  · split at hx
    · rename_i hq; cases hq; cases hx; exact wl_lconst hd k
    · cases hx
  · split at hx
    · rename_i h1
      split at hx
      · rename_i hq; cases hq; cases hx; exact wl_iload_n hd h1 k
      · cases hx
    · cases hx
  · split at hx
    · rename_i h1
      split at hx
      · rename_i hq; cases hq; cases hx; exact wl_iload hd h1 k
      · cases hx
    · cases hx
  · split at hx
    · rename_i h1
      split at hx
      · rename_i hq; cases hq; cases hx; exact wl_dload_n hd h1 k
      · cases hx
    · cases hx
  · split at hx
    · rename_i h1
      split at hx
      · rename_i hq; cases hq; cases hx; exact wl_dload hd h1 k
      · cases hx
    · cases hx
  · split at hx
    · rename_i h1
      split at hx
      · rename_i hq; cases hq; cases hx; exact wl_aload_n hd h1 k
      · cases hx
    · cases hx
  · split at hx
    · rename_i h1
      split at hx
      · rename_i hq; cases hq; cases hx; exact wl_aload hd h1 k
      · cases hx
    · cases hx
  · split at hx
    · split at hx
      · rename_i hq; obtain ⟨hq, hn⟩ := hq; cases hq; cases hx; exact wl_istore_n hd hn k
      · cases hx
    · cases hx
  · split at hx
    · split at hx
      · rename_i hq; obtain ⟨hq, hn⟩ := hq; cases hq; cases hx; exact wl_istore hd hn k
      · cases hx
    · cases hx
  · split at hx
    · split at hx
      · rename_i hq; obtain ⟨hq, hn⟩ := hq; cases hq; cases hx; exact wl_dstore_n hd hn k
      · cases hx
    · cases hx
  · split at hx
    · split at hx
      · rename_i hq; obtain ⟨hq, hn⟩ := hq; cases hq; cases hx; exact wl_dstore hd hn k
      · cases hx
    · cases hx
  · split at hx
    · split at hx
      · rename_i hq; obtain ⟨hq, hn⟩ := hq; cases hq; cases hx; exact wl_astore_n hd hn k
      · cases hx
    · cases hx
  · split at hx
    · split at hx
      · rename_i hq; obtain ⟨hq, hn⟩ := hq; cases hq; cases hx; exact wl_astore hd hn k
      · cases hx
    · cases hx
  · split at hx
    · split at hx
      · rename_i hq; cases hq; cases hx; exact wl_iadd hd k
      · cases hx
    · cases hx
  · split at hx
    · split at hx
      · rename_i hq; cases hq; cases hx; exact wl_isub hd k
      · cases hx
    · cases hx
  · split at hx
    · split at hx
      · rename_i hq; cases hq; cases hx; exact wl_imul hd k
      · cases hx
    · cases hx
  · split at hx
    · split at hx
      · rename_i hq; cases hq; cases hx; exact wl_iand hd k
      · cases hx
    · cases hx
  · split at hx
    · split at hx
      · rename_i hq; cases hq; cases hx; exact wl_ior hd k
      · cases hx
    · cases hx
  · split at hx
    · split at hx
      · rename_i hq; cases hq; cases hx; exact wl_ishl hd k
      · cases hx
    · cases hx
  · split at hx
    · split at hx
      · rename_i hq; cases hq; cases hx; exact wl_ishr hd k
      · cases hx
    · cases hx
  · split at hx
    · split at hx
      · rename_i hq; cases hq; cases hx; exact wl_lcmp hd k
      · cases hx
    · cases hx
  · split at hx
    · split at hx
      · rename_i hq; cases hq; cases hx; exact wl_dcmp hd k
      · cases hx
    · cases hx
  · split at hx
    · split at hx
      · rename_i hq; cases hq; cases hx; exact wl_i2l hd k
      · cases hx
    · cases hx
  · split at hx
    · split at hx
      · rename_i hq; cases hq; cases hx; exact wl_i2d hd k
      · cases hx
    · cases hx
  · split at hx
    · split at hx
      next hq => cases hq; cases hx; exact wl_dup rfl hd k
      next => cases hx
    · split at hx
      next hq => cases hq; cases hx; exact wl_dup rfl hd k
      next => cases hx
    · cases hx
  · split at hx
    · split at hx
      next hq => cases hq; cases hx; exact wl_pop rfl hd k
      next => cases hx
    · split at hx
      next hq => cases hq; cases hx; exact wl_pop rfl hd k
      next => cases hx
    · cases hx
  · split at hx
    · split at hx
      next hq => cases hq; cases hx; exact wl_dup2 rfl rfl hd k
      next => cases hx
    · cases hx
  · split at hx
    next h1 =>
      split at hx
      next hq => obtain ⟨hq, hn⟩ := hq; cases hq; cases hx; exact wl_iinc hd h1 hn k
      next => cases hx
    next => cases hx
  · cases hx
theorem wq_run : ∀ (is : List (Instr × Nat)) {pc pc' : Nat} {L L' : List (Nat × AV)} {st st' : List AV}, cy_dc (mC M) pc is → cy_xs (mN M) is (L, st) = some (L', st') → pc + cy_ln2 is = pc' → WL g M d uc us pc' L' st' h Φ → WL g M d uc us pc L st h Φ := by
  intro is
  induction is with
  | nil =>
    intro pc pc' L L' st st' _ hx hp k
    cases hx
    cases hp
    exact k
  | cons q r ih =>
    intro pc pc' L L' st st' hd hx hp k
    obtain ⟨i, len⟩ := q
    unfold cy_xs at hx
    split at hx
    next c h1 =>
      obtain ⟨L1, st1⟩ := c
      refine cl_x1_ok hd.1 h1 (ih hd.2 hx ?_ k)
      rw [← hp]
      simp only [cy_ln2]
      omega
    next => cases hx
theorem wl_ixor {x y : Int32} (hd : decode (mC M) pc = .ok (.ixor, 1)) (k : WL g M d uc us (pc + 1) L (.inl (.int (x ^^^ y)) :: st) h Φ) : WL g M d uc us pc L (.inl (.int y) :: .inl (.int x) :: st) h Φ :=
  wq_step (fun _ a b => ⟨a, cy_push cy_num (cy_pop (cy_pop b))⟩) (fun _ _ _ _ _ _ _ _ _ _ _ _ _ _ _ _ _ hx hb hl kk => lv_ixor hx hb hd (kk _ hl)) k
theorem wl_iushr {x y : Int32} (hd : decode (mC M) pc = .ok (.iushr, 1)) (k : WL g M d uc us (pc + 1) L (.inl (.int (x.toUInt32 >>> (y.toUInt32 &&& Int32.toUInt32 31)).toInt32) :: st) h Φ) : WL g M d uc us pc L (.inl (.int y) :: .inl (.int x) :: st) h Φ :=
  wq_step (fun _ a b => ⟨a, cy_push cy_num (cy_pop (cy_pop b))⟩) (fun _ _ _ _ _ _ _ _ _ _ _ _ _ _ _ _ _ hx hb hl kk => lv_iushr hx hb hd rfl (kk _ hl)) k
theorem wl_ladd {x y : Int64} (hd : decode (mC M) pc = .ok (.ladd, 1)) (k : WL g M d uc us (pc + 1) L (.inl (.long (x + y)) :: st) h Φ) : WL g M d uc us pc L (.inl (.long y) :: .inl (.long x) :: st) h Φ :=
  wq_step (fun _ a b => ⟨a, cy_push cy_num (cy_pop (cy_pop b))⟩) (fun _ _ _ _ _ _ _ _ _ _ _ _ _ _ _ _ _ hx hb hl kk => lv_ladd hx hb hd (kk _ hl)) k
theorem wl_lmul {x y : Int64} (hd : decode (mC M) pc = .ok (.lmul, 1)) (k : WL g M d uc us (pc + 1) L (.inl (.long (x * y)) :: st) h Φ) : WL g M d uc us pc L (.inl (.long y) :: .inl (.long x) :: st) h Φ :=
  wq_step (fun _ a b => ⟨a, cy_push cy_num (cy_pop (cy_pop b))⟩) (fun _ _ _ _ _ _ _ _ _ _ _ _ _ _ _ _ _ hx hb hl kk => lv_lmul hx hb hd (kk _ hl)) k
theorem wl_ldc2 {index : Nat} {v : Int64} (hw : Cond.constantLong (mO M) index v ∈ lw_tbl) (hd : decode (mC M) pc = .ok (.ldc2_w index, 3)) (k : WL g M d uc us (pc + 3) L (.inl (.long v) :: st) h Φ) : WL g M d uc us pc L st h Φ := by
  intro hg p e R s m args below meth c H locs cells slots ls ad ad0 cn0 hE hd9 hdl hc hs hr hx hR hB hS hl hwL hwS
  exact lv_ldc2 hE.1 hE.2.1 hE.2.2.2.2.1 (cy_wd hg hE.2.2.2.2.2.2.1 hw (by rfl)) hd (k hg p e R s m args below meth c H locs cells slots ls ad ad0 cn0 hE hd9 hdl hc hs hr hx hR hB hS hl hwL (cy_push cy_num hwS))
theorem wl_lret {x : Int64} (hL : mL M = 0) (hr : mR M = some .long) (hd : decode (mC M) pc = .ok (.lreturn, 1)) (hΦ : Φ (.inl (some (.inl (.long x)))) h) : WL g M d uc us pc L [.inl (.long x)] h Φ :=
  wq_end hL hΦ (fun _ _ v e => by cases e; trivial) (fun _ _ _ _ _ _ _ _ _ _ _ _ _ _ ad _ _ _ hx hb hrt hlk hq hf => W.lret hx hb (hrt.trans hr) hq hf hd hlk)
end LPLAIN
