/-! ===== own: grown heaps (out of whole) ===== -/
theorem TQ.walk {h X : Hp} (q : TQ h X) (a b : Int32) : F_X3_walk X a b = F_X3_walk h a b := by
  unfold F_X3_walk
  rw [q.at]
theorem TQ.arrAt {h X : Hp} (q : TQ h X) (k s : Int32) : F_X5_arrivalAt X k s = F_X5_arrivalAt h k s := by
  unfold F_X5_arrivalAt
  rw [q.at]
theorem TQ.eend {h X : Hp} (q : TQ h X) (k : Int32) : F_X5_end X k = F_X5_end h k := by
  have ef : ∀ s, F_X5_endFrom X s k = F_X5_endFrom h s k := fun s => by
    unfold F_X5_endFrom
    rw [q.arrAt, q.walk, q.2.1 604 (by decide) (by decide)]
  have key : ∀ (fu : Nat) (e : Int32) (s : Nat), L_X5_end_5 X k fu e s = L_X5_end_5 h k fu e s := by
    intro fu
    induction fu with
    | zero => intro e s; rfl
    | succ fu ih =>
      intro e s
      rw [L_X5_end_5_s, L_X5_end_5_s]
      unfold B_X5_end_5
      rw [q.2.1 403 (by decide) (by decide), ef, ih]
  exact key _ _ _
theorem TQ.eR0 {h X : Hp} (q : TQ h X) (a ti s : Nat) (v : Int) : R0 X a ti s v ↔ R0 h a ti s v := by
  unfold R0
  rw [q.1]
theorem TQ.eCand {h X : Hp} (q : TQ h X) (R : Nat → Int) (fd ld s : Nat) (v : Int) : CandT X R fd ld (xLS X 11) s v ↔ CandT h R fd ld (xLS h 11) s v := by
  unfold CandT Cand
  rw [q.2.2.2]
  simp only [q.eSt, q.eLn, q.eDp, q.eAr, q.eGo]
theorem TQ.eRdy {h X : Hp} (q : TQ h X) (n0 : Nat) (E : Nat → Int) (s : Nat) (v : Int) : Rdy X n0 E s v ↔ Rdy h n0 E s v := by
  unfold Rdy
  simp only [q.eCh]
theorem FX.eR0 {fs : List Nat} {h X : Hp} (q : FX fs ss2 h X) (a ti s : Nat) (v : Int) : R0 X a ti s v ↔ R0 h a ti s v := by
  unfold R0
  rw [q.2.2 23 (by decide)]
theorem FX.eRdy {fs : List Nat} {h X : Hp} (q : FX fs ss2 h X) (n0 : Nat) (E : Nat → Int) (s : Nat) (v : Int) : Rdy X n0 E s v ↔ Rdy h n0 E s v := by
  unfold Rdy
  simp only [chI_fx q]
theorem FX.eCand {fs : List Nat} {h X : Hp} {n0 : Nat} (q : FX fs ss2 h X) (w : World h n0) (hf : 403 ∉ fs ∧ 810 ∉ fs) (R : Nat → Int) (fd ld s : Nat) (v : Int) : CandT X R fd ld (xLS X 11) s v ↔ CandT h R fd ld (xLS h 11) s v := by
  obtain ⟨-, e1, e2, e3, e4, e5⟩ := w.fx q hf
  unfold CandT Cand
  rw [ls_fx q]
  simp only [e1, e2, e3, e4, e5]
theorem SearchC.self {h HC : Hp} {n0 n a b ti : Nat} (w : World h n0) (c : SearchC h HC n0 n a b ti) : SearchC HC HC n0 n a b ti := by
  obtain ⟨x, c3, c4, c5, c6, c7, c0, cs⟩ := c
  refine ⟨FX.rf, c3, c4, c5, c6, c7, fun s hs => (c0 s hs).same (fun v => x.eR0 a ti s v), fun m hm s hs => ?_⟩
  obtain ⟨l1, l2⟩ := cs m hm s hs
  exact ⟨l1.same (fun v => x.eCand w (by decide) _ _ _ s v), l2.same (fun v => x.eRdy n0 _ s v)⟩
theorem SearchC.tq {HC T : Hp} {n0 n a b ti : Nat} (c : SearchC HC HC n0 n a b ti) (q : TQ HC T) : SearchC T T n0 n a b ti := by
  obtain ⟨x, c3, c4, c5, c6, c7, c0, cs⟩ := c
  refine ⟨FX.rf, (q.2.1 603 (by decide) (by decide) 0).trans c3, (q.2.1 604 (by decide) (by decide) 0).trans c4, (q.2.1 605 (by decide) (by decide) 0).trans c5, (q.2.1 606 (by decide) (by decide) 0).trans c6, (q.2.1 607 (by decide) (by decide) 0).trans c7, fun s hs => ?_, fun m hm s hs => ?_⟩
  · rw [q.eRc]
    exact (c0 s hs).same (fun v => q.eR0 a ti s v)
  · obtain ⟨l1, l2⟩ := cs m hm s hs
    rw [q.eRc, q.eEc, q.eRc]
    exact ⟨l1.same (fun v => q.eCand _ _ _ s v), l2.same (fun v => q.eRdy n0 _ s v)⟩
theorem SearchC.mono {h HC : Hp} {n0 n m a b ti : Nat} (c : SearchC h HC n0 n a b ti) (hm : m ≤ n) : SearchC h HC n0 m a b ti := by
  obtain ⟨x, c3, c4, c5, c6, c7, c0, cs⟩ := c
  exact ⟨x, c3, c4, c5, c6, c7, c0, fun k hk => cs k (by omega)⟩
theorem TQ.eLSt {h X : Hp} (q : TQ h X) {n0 : Nat} {E : Nat → Int} {b : Nat} {e : Int} {s : Nat} (l : LSt h n0 E b e s) : LSt X n0 E b e s := by
  unfold LSt OKE at l ⊢
  simp only [q.eTo]
  exact l
theorem TQ.way {h X : Hp} (q : TQ h X) {n0 : Nat} {R E : Nat → Nat → Int} {fd ld b n : Nat} {e : Int} {at' t d i j : Nat → Nat} (w : Way h n0 R E fd ld b n e at' t d i j) : Way X n0 R E fd ld b n e at' t d i j := by
  refine ⟨q.eLSt w.1, fun m hm => ?_⟩
  obtain ⟨f, a⟩ := w.2 m hm
  refine ⟨q.fr f, fun h0 => ?_⟩
  have := q.ah (a h0)
  rw [q.eSt, q.eDp]
  exact this
theorem TQ.eCg {h X : Hp} (q : TQ h X) (a : Nat) (at' t i : Nat → Nat) (m : Nat) : cgW X a at' t i m = cgW h a at' t i m := by
  unfold cgW
  simp only [q.eCh, q.eSt]
theorem ToldC.self {h T : Hp} {n a b ti : Nat} {e : Int32} {at' t d i j : Nat → Nat} (q : ToldC h h T n a b ti e at' t d i j) : ToldC T h T n a b ti e at' t d i j := by
  obtain ⟨q0, q1, q2, q3, q4, q5, q6, q7, q8⟩ := q
  refine ⟨q0, q1, q2, q3, q4, by rw [q0.eTo]; exact q5, q6, q7, fun x hx => ?_⟩
  rw [q0.eCg]
  exact q8 x hx
theorem Way.pl {h : Hp} {n0 fd ld b n : Nat} {e : Int} {R E : Nat → Nat → Int} {at' t d i j : Nat → Nat} (w : World h n0) (hld : ld < 100) (wy : Way h n0 R E fd ld b n e at' t d i j) {x : Nat} (hx : x < n) :
    t x < xLS h 11 ∧ d x < 100 ∧ i x < j x ∧ j x < lnN h (t x) ∧ lnN h (t x) ≤ 6 := by
  obtain ⟨f, -⟩ := wy.2 x hx
  obtain ⟨f1, f2, f3, f4, -⟩ := f
  exact ⟨f1, by omega, f4.2.1, f4.2.2.1, (w.2.2.2 (t x) f1).2.1⟩
theorem pl_not {h : Hp} {n0 t p : Nat} (w : World h n0) (ht : t < xLS h 11) (hp : p < lnN h t) : ¬ xFI h 810 t ≤ nI p := by
  obtain ⟨a, b, c, -⟩ := w.2.2.2 t ht
  rw [c]
  intro q
  have := (nI_leI (by omega) (by omega)).mp q
  omega
theorem rideAt_eq {T : Hp} {jj : Nat} {R0 : List Nat} {f : Nat → Nat} {y : Nat} (hy : y < 2147483648) : ∀ (k x : Nat), x ≤ y → x + k < 2147483648 → L_X2_rideAt_7 T jj R0 (nI y) ((List.range' x k).map f) (nI x) = if y < x + k then some (f y) else none := by
  intro k
  induction k with
  | zero =>
    intro x hx _
    rw [if_neg (by omega)]
    rfl
  | succ k ih =>
    intro x hx hk
    show B_X2_rideAt_7 T jj R0 (nI y) (L_X2_rideAt_7 T jj R0 (nI y) ((List.range' (x + 1) k).map f)) (f x) (nI x) = _
    unfold B_X2_rideAt_7
    by_cases e : x = y
    · subst e
      rw [if_pos rfl, if_pos (by omega)]
    · rw [if_neg (fun z => e (nI_inj (by omega) hy z)), nI_1, ih (x + 1) (by omega) (by omega)]
      by_cases c : y < x + (k + 1)
      · rw [if_pos c, if_pos (by omega)]
      · rw [if_neg c, if_neg (by omega)]
theorem rg_get {f : Nat → Nat} : ∀ (n s k r : Nat), ((List.range' s n).map f)[k]? = some r → k < n ∧ r = f (s + k) := by
  intro n
  induction n with
  | zero => intro s k r h; simp at h
  | succ n ih =>
    intro s k r h
    have e : (List.range' s (n + 1)).map f = f s :: (List.range' (s + 1) n).map f := rfl
    rw [e] at h
    cases k with
    | zero =>
      rw [List.getElem?_cons_zero] at h
      cases h
      exact ⟨by omega, rfl⟩
    | succ k =>
      rw [List.getElem?_cons_succ] at h
      obtain ⟨a, b⟩ := ih (s + 1) k r h
      exact ⟨by omega, by rw [b]; congr 1; omega⟩
theorem rg_mem {f : Nat → Nat} : ∀ (n s r : Nat), r ∈ (List.range' s n).map f → ∃ x, s ≤ x ∧ x < s + n ∧ r = f x := by
  intro n
  induction n with
  | zero => intro s r h; simp at h
  | succ n ih =>
    intro s r h
    have e : (List.range' s (n + 1)).map f = f s :: (List.range' (s + 1) n).map f := rfl
    rw [e] at h
    rcases List.mem_cons.mp h with rfl | h
    · exact ⟨s, Nat.le_refl _, by omega, rfl⟩
    · obtain ⟨x, a, b, c⟩ := ih (s + 1) r h
      exact ⟨x, by omega, by omega, c⟩
theorem rg_len {f : Nat → Nat} {n s : Nat} : ((List.range' s n).map f).length = n := by
  rw [List.length_map, List.length_range']
theorem told_r5 {h HC T : Hp} {n a b ti : Nat} {e : Int32} {at' t d i j : Nat → Nat} (q : ToldC h HC T n a b ti e at' t d i j) : xCN HC 3 < xCN T 3 ∧ ∀ r, r ∈ rls T (xCN HC 3) → r < xCN T 5 := by
  refine ⟨by have := q.2.2.1; omega, fun r hr => ?_⟩
  rw [q.2.2.2.2.2.2.2.1] at hr
  obtain ⟨x, a, b, rfl⟩ := rg_mem n 0 r hr
  have := q.2.1
  unfold rid
  omega
