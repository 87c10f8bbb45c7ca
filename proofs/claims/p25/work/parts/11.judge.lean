/-! ===== own: the judgement over the abstract heap ===== -/
-- a method: class, name, code, locals, answer's type, handlers, its full name; 1: the law itself
abbrev MT : Type := String × MethodName × ByteArray × Nat × Option FieldType × List (Nat × Nat × Nat × Nat) × Nat
def mO (M : MT) : String := M.1
def mY (M : MT) : MethodName := M.2.1
def mC (M : MT) : ByteArray := M.2.2.1
def mN (M : MT) : Nat := M.2.2.2.1
def mR (M : MT) : Option FieldType := M.2.2.2.2.1
def mH (M : MT) : List (Nat × Nat × Nat × Nat) := M.2.2.2.2.2.1
def mL (M : MT) : Nat := M.2.2.2.2.2.2
def cy_word (M : MT) : Cond := match mH M with
  | [] => .code (mY M) (mC M) (mN M) (mR M)
  | hh => .codeWith (mY M) (mC M) (mN M) (mR M) hh
/-- the texts that are thrown, by their places in Connectory's pool -/
def cy_strs : List (Nat × String) := [(59, "no more stops"), (74, "a footway leads to another stop, in minutes"), (94, "no more trips"), (122, "the trip does not go on"), (150, "no more notes"), (175, "out of range"), (211, "this can't be booked"), (225, "the booking is not held"), (233, "there is no right"), (263, "no such firm"), (266, "no such stop"), (268, "a journey goes to another stop"), (271, "no such trip"), (273, "no such booking")]
abbrev cy_e1 : String := "java/lang/IllegalArgumentException"
abbrev cy_e2 : String := "java/lang/IllegalStateException"
abbrev cy_e3 : String := "java/lang/IndexOutOfBoundsException"
/-- pairs of classes of which none is the other's -/
def cy_ncs : List (String × String) := [(cy_e1, cy_e2), (cy_e1, cy_e3), (cy_e2, cy_e1), (cy_e2, cy_e3), (cy_e3, cy_e1), (cy_e3, cy_e2)]
/-- what the start gives: the words, the classes, no stack traces, the statics and constants that the code reads -/
def SF (g : GT) : Prop :=
  (cy_l g).stackTraces = false ∧
  (∀ w ∈ lw_tbl, w.before (cy_a g) (cy_s g) = true) ∧
  va_K (cy_D g) vwCl (cy_tys g) (cy_s g) ∧
  vx_Zq Bundle.tN "UNASSIGNED_STACK" Bundle.steD (cy_A g) (cy_s g) (cy_s g).heap ∧
  vx_Zq Bundle.tN "SUPPRESSED_SENTINEL" Bundle.listD (cy_A g) (cy_s g) (cy_s g).heap ∧
  va_Z "Connectory" "CARBON" "[I" (.ref (cy_ca g)) (cy_A g) (cy_s g) (cy_s g).heap ∧
  va_Z "java/util/ArrayList" "DEFAULTCAPACITY_EMPTY_ELEMENTDATA" "[Ljava/lang/Object;" (.ref (cy_ea g)) (cy_A g) (cy_s g) (cy_s g).heap ∧
  (∀ q ∈ cy_strs, ∃ sa, vk_R "Connectory" q.1 q.2 sa (cy_s g)) ∧
  (∀ q ∈ cy_ncs, va_Nc q.1 q.2 (cy_s g)) ∧
  (Jvm.Cond.and given_1 narrow_1).before (cy_a g) (cy_s g) = true ∧
  va_T (.object "java/lang/Object") (cy_ea g) 0 (fun _ => .null) (cy_A g) (cy_s g) (cy_s g).heap
abbrev Rs : Type := Option AV ⊕ String
def cy_Qc (g : GT) (Φ : Rs → Hp → Prop) (ad0 : Nat → Nat → Nat) (cn0 : Nat → Nat) : Array Value → State → Outcome → State → Prop := fun _ st o t =>
  st.heap.size ≤ t.heap.size ∧ ∃ (r : Option AV) (h : Hp) (ad : Nat → Nat → Nat), Φ (.inl r) h ∧ o = .returned (r.map (cy_cv ad)) ∧ (∀ v, r = some v → cy_wf (xCN h) v) ∧ Rel g ad h t.heap ∧ Ext ad0 cn0 ad (xCN h)
def cy_XC (g : GT) (Φ : Rs → Hp → Prop) (ad0 : Nat → Nat → Nat) (cn0 : Nat → Nat) : String → State → State → Prop := fun E st t =>
  st.heap.size ≤ t.heap.size ∧ ∃ (h : Hp) (ad : Nat → Nat → Nat), Φ (.inr E) h ∧ Rel g ad h t.heap ∧ Ext ad0 cn0 ad (xCN h)
/-- what the walk of a body works in -/
def cy_En (g : GT) (M : MT) (p : Program) (s : State) (m : MethodId) (args : Array Value) (meth : Method) (c : Code) : Prop :=
  p.tables.exec = Jvm.exec ∧ c.code = mC M ∧ c.maxLocals = mN M ∧ meth.sig.returnType = mR M ∧ s.vm.findClass (mO M) = some m.cls ∧ meth.locks = false ∧ (cy_s g).WarmedH s.vm ∧ (mL M = 0 → meth.name = (mY M).name ∧ c.exceptionTable.toList = tableOf (mH M)) ∧ (mL M ≠ 0 → (∃ b, args = #[.ref b]) ∧ s.heap.size ≤ cy_B g)
/-- where a body's walk ends -/
def cy_Fi (g : GT) (M : MT) (Φ : Rs → Hp → Prop) (ad0 : Nat → Nat → Nat) (cn0 : Nat → Nat) (below : List Frame) (args : Array Value) (s : State) (R : Room) : State → Prop :=
  if mL M = 0 then vx_MQ below (cy_Qc g Φ ad0 cn0) (cy_XC g Φ ad0 cn0) args s R.cells R.slots (cy_A g) else lw_Z below args s
/-- from pc with the locals L, the stack st, the heap h, uc cells of us slots still to be had, the body comes to an end with Φ -/
def WP (g : GT) (M : MT) (d uc us : Nat) (pc : Nat) (L : List (Nat × AV)) (st : List AV) (h : Hp) (Φ : Rs → Hp → Prop) : Prop :=
  SF g → ∀ (p : Program) (e : Env) (R : Room) (s : State) (m : MethodId) (args : Array Value) (below : List Frame) (meth : Method) (c : Code) (H : Heap) (locs : List Loc) (cells slots : Nat) (ls : Array Slot) (ad ad0 : Nat → Nat → Nat) (cn0 : Nat → Nat),
    cy_En g M p s m args meth c → d ≤ R.frames → 64 * d ≤ R.locals → cells + uc ≤ R.cells → slots + us ≤ R.slots → (mL M ≠ 0 → R = room_1) → Ext ad0 cn0 ad (xCN h) → Rel g ad h H → cy_B g ≤ s.heap.size → va_S (cy_A g) s.heap H locs →
    lv_has ls (mN M) (L.map (fun q => (q.1, cy_cv ad q.2))) → (∀ q ∈ L, cy_wf (xCN h) q.2) → (∀ v ∈ st, cy_wf (xCN h) v) →
    W p (cy_l g) e R s m args below meth c H locs cells slots (cy_Fi g M Φ ad0 cn0 below args s R) (F0 m pc ls (st.map (cy_cv ad)))
/-- method M's contract at the arguments av and the heap h: it returns or throws, with Φ; at most bc new cells of bs slots -/
def Ctr (g : GT) (M : MT) (d bc bs : Nat) (av : List AV) (h : Hp) (Φ : Rs → Hp → Prop) : Prop :=
  SF g → ∀ ad : Nat → Nat → Nat, (∀ v ∈ av, cy_wf (xCN h) v) →
    vx_Met (cy_l g) (mY M) [cy_word M] { frames := d, cells := bc, slots := bs, locals := 64 * d } (va_Pc (av.map (cy_cv ad)) (fun U => Rel g ad h U.heap ∧ (cy_s g).WarmedH U.vm)) (cy_Qc g Φ ad (xCN h)) (cy_XC g Φ ad (xCN h)) bc bs (cy_A g)
/-- the locals at a body's begin -/
def cy_ar : Nat → List AV → List (Nat × AV)
  | _, [] => []
  | i, v :: vs => (i, v) :: cy_ar (if cy_ct v = 2 then i + 2 else i + 1) vs
theorem cy_ar_cv (ad : Nat → Nat → Nat) : ∀ (vs : List AV) (i : Nat), lv_args i (vs.map (cy_cv ad)) = (cy_ar i vs).map (fun q => (q.1, cy_cv ad q.2)) := by
  intro vs
  induction vs with
  | nil => intro i; rfl
  | cons v vs ih =>
    intro i
    simp only [List.map_cons, lv_args, cy_ar, cy_ct_cv]
    rw [ih]
theorem cy_ar_mem : ∀ (vs : List AV) (i : Nat) (q : Nat × AV), q ∈ cy_ar i vs → q.2 ∈ vs := by
  intro vs
  induction vs with
  | nil => intro i q h; cases h
  | cons v vs ih =>
    intro i q h
    rcases List.mem_cons.mp h with rfl | h
    · exact List.mem_cons_self
    · exact List.mem_cons_of_mem _ (ih _ _ h)
/-- a word that holds at the start holds at a method's start -/
theorem cy_wd {g : GT} (hg : SF g) {s : State} {args : Array Value} (hW : (cy_s g).WarmedH s.vm) {w : Cond} (hw : w ∈ lw_tbl) (hgood : goodWord w = true) : w.before args s = true :=
  word_at hW (good_of_word hgood) (hg.2.1 w hw)
theorem cy_K {g : GT} (hg : SF g) {s : State} (hW : (cy_s g).WarmedH s.vm) : va_K (cy_D g) vwCl (cy_tys g) s := va_K.moved hW.alike hg.2.2.1
/-- how a contract is proved -/
theorem cy_body {g : GT} {M : MT} {d bc bs : Nat} {av : List AV} {h : Hp} {Φ : Rs → Hp → Prop} (hO : (mY M).cls = mO M) (hL : mL M = 0) (hp : plainName (mY M).cls = true) (hn : (lg_sl (av.map (cy_cv fun _ _ => 0))).length ≤ mN M)
    (k : WP g M d bc bs 0 (cy_ar 0 av) [] h Φ) : Ctr g M d bc bs av h Φ := by
  intro hg ad hwf
  have hlen : ∀ vs : List AV, (lg_sl (vs.map (cy_cv ad))).length = (lg_sl (vs.map (cy_cv fun _ _ => 0))).length := by
    intro vs
    induction vs with
    | nil => rfl
    | cons v vs ih =>
      simp only [lg_sl, List.map_cons, List.flatMap_cons, List.length_append, cy_ct_cv] at ih ⊢
      rw [ih]
      split <;> rfl
  have main : ∀ (p : Program) (e : Env) (s : State) (m : MethodId) (args : Array Value) (below : List Frame) (meth : Method) (c : Code) (s₁ : State), BodyLoose p (cy_l g) (mY M) (headSpec [cy_word M] { frames := d, cells := bc, slots := bs, locals := 64 * d }) (mC M) (mN M) (mR M) e s m args below meth c s₁ → c.maxLocals = mN M → c.exceptionTable.toList = tableOf (mH M) → va_Pc (av.map (cy_cv ad)) (fun U => Rel g ad h U.heap ∧ (cy_s g).WarmedH U.vm) args s →
      W p (cy_l g) e { frames := d, cells := bc, slots := bs, locals := 64 * d } s m args below meth c s.heap [] 0 0 (vx_MQ below (cy_Qc g Φ ad (xCN h)) (cy_XC g Φ ad (xCN h)) args s bc bs (cy_A g)) (entryFrame m args (mN M)) := by
    intro p e s m args below meth c s₁ B hml ht hP
    obtain ⟨rfl, hR, hW⟩ := hP
    have hl := lv_entry (av.map (cy_cv ad)) (n := mN M) (by rw [hlen]; exact hn)
    rw [lg_entry_eq]
    generalize ((lg_sl (av.map (cy_cv ad)) ++ List.replicate (mN M - (lg_sl (av.map (cy_cv ad))).length) Slot.unset).toArray) = ls at hl ⊢
    rw [cy_ar_cv] at hl
    have K := k hg p e { frames := d, cells := bc, slots := bs, locals := 64 * d } s m (av.map (cy_cv ad)).toArray below meth c s.heap [] 0 0 ls ad ad (xCN h)
      ⟨B.exec, B.bytes, hml, B.returns, by rw [← hO]; exact findClass_of_methodNamed B.named, B.notSynchronized, hW, fun _ => ⟨(name_of_methodNamed B.named B.method).1, ht⟩, fun z => absurd hL z⟩
      (Nat.le_refl _) (Nat.le_refl _) (Nat.le_of_eq (Nat.zero_add _)) (Nat.le_of_eq (Nat.zero_add _)) (fun z => absurd hL z) (Ext.refl _ _) hR hR.2.2.2.2.2.2.1 va_S.rf hl (fun q hq => hwf _ (cy_ar_mem _ _ _ hq)) (fun v hv => by cases hv)
    simp only [cy_Fi, hL, if_true] at K
    exact K
  unfold cy_word at main ⊢
  cases hh : mH M with
  | nil =>
    rw [hh] at main
    refine vx_ofW hp rfl ?_
    intro p e s m args below meth c s₁ B hml ht hP
    exact main p e s m args below meth c s₁ B hml (by
      cases hx : c.exceptionTable.toList with
      | nil => rfl
      | cons a b => exact absurd (by rw [hx]; exact List.mem_cons_self) (ht a)) hP
  | cons q r =>
    rw [hh] at main
    refine vx_ofWH hp rfl ?_
    intro p e s m args below meth c s₁ B hml hP
    exact main p e s m args below meth c s₁ B hml (vx_table (x := mY M) B (atoms_spec B.pre _ List.mem_cons_self)) hP
