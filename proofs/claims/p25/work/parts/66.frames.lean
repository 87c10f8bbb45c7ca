/-! ===== own: what seeking and telling leave as it was ===== -/
theorem ZX.sfi {h : Hp} {k : Nat} {v : Int32} (hk : k ∈ zF) : ZX h (sFI h k 0 v) := ⟨⟨rfl, rfl⟩, fun f i n => if_neg (fun q => n ⟨by rw [q.1]; exact hk, q.2⟩), fun _ _ _ _ => rfl⟩
theorem zl_50 {h : Hp} {s : Nat} (hs : s ∈ zA) : cy_ln h s = 50 := by
  simp only [zA, List.mem_cons, List.not_mem_nil, or_false] at hs
  rcases hs with rfl | rfl <;> rfl
theorem ZX.fill {h : Hp} {s : Nat} {v : Int32} (hs : s ∈ zA) : ZX h (H_fill h s 0 v) := ⟨⟨rfl, rfl⟩, fun _ _ _ => rfl, fun s' i j n => if_neg (fun q => n ⟨by rw [q.1]; exact hs, q.2.1, by have := zl_50 (h := h) hs; omega⟩)⟩
theorem ZX.put {h : Hp} {s : Nat} {x v : Int32} (hs : s ∈ zA) : ZX h (H_put h s 0 x v) := ⟨⟨rfl, rfl⟩, fun _ _ _ => rfl, fun s' i j n => by
  show A_put h s 0 x v s' i j = h.2.2.1 s' i j
  unfold A_put
  by_cases c0 : x < 0
  · rw [if_pos c0]
  · rw [if_neg c0]
    by_cases c1 : Int32.ofNat (cy_ln h s) ≤ x
    · rw [if_pos c1]
    · rw [if_neg c1]
      have h50 := zl_50 (h := h) hs
      rw [h50] at c1
      have hin : x.toNatClampNeg < 50 := Nat.not_le.mp fun q => (cy_inr (n := 50) (by decide) c0 c1) (Or.inr q)
      unfold up3
      exact if_neg (fun q => n ⟨by rw [q.1]; exact hs, q.2.1, by rw [q.2.2]; exact hin⟩)⟩
theorem zx_setOut (h : Hp) : ZX h (F_X5_setOut h) := by
  have key : ∀ (fu : Nat) (h2 : Hp) (s : Nat), ZX h h2 → ZX h (L_X5_setOut_2 h (K_X5_setOut_2 h) fu h2 s) := by
    intro fu
    induction fu with
    | zero => intro h2 s x; exact x
    | succ fu ih =>
      intro h2 s x
      rw [L_X5_setOut_2_s]
      unfold B_X5_setOut_2
      split
      · exact x.trans (ZX.put (by decide))
      · split
        · exact ih _ _ x
        · exact ih _ _ (x.trans (ZX.put (by decide)))
  exact key _ _ _ ZX.rf
theorem zx_rideRun (h : Hp) (t : Nat) (dy k : Int32) : ZX h (F_X5_rideRun h t dy k) := by
  have key : ∀ (fu : Nat) (h2 : Hp) (ab : Int32) (p : Nat), ZX h h2 → ZX h (L_X5_rideRun_6 h t dy k fu h2 ab p) := by
    intro fu
    induction fu with
    | zero => intro h2 ab p x; exact x
    | succ fu ih =>
      intro h2 ab p x
      rw [L_X5_rideRun_6_s]
      unfold B_X5_rideRun_6
      split
      · exact x
      · split
        · exact ih _ _ _ x
        · exact ih _ _ _ (x.trans (ZX.put (by decide)))
  exact key _ _ _ _ ZX.rf
theorem zx_rideOn (h : Hp) (k : Int32) : ZX h (F_X5_rideOn h k) := by
  have inner : ∀ (h2 : Hp) (i : Nat) (rec2 : Hp → Nat → Hp), (∀ X i, ZX h X → ZX h (rec2 X i)) → ∀ (fu : Nat) (h37 : Hp) (dy : Int32), ZX h h37 → ZX h (L_X5_rideOn_37 h k h2 i rec2 (K_X5_rideOn_37 h k h2 i rec2) fu h37 dy) := by
    intro h2 i rec2 hr fu
    induction fu with
    | zero => intro h37 dy x; exact x
    | succ fu ih =>
      intro h37 dy x
      rw [L_X5_rideOn_37_s]
      unfold B_X5_rideOn_37
      split
      · exact hr _ _ x
      · split
        · exact hr _ _ x
        · split
          · exact ih _ _ x
          · exact ih _ _ (x.trans (zx_rideRun _ _ _ _))
  have key : ∀ (fu : Nat) (h2 : Hp) (i : Nat), ZX h h2 → ZX h (L_X5_rideOn_2 h k fu h2 i) := by
    intro fu
    induction fu with
    | zero => intro h2 i x; exact x
    | succ fu ih =>
      intro h2 i x
      rw [L_X5_rideOn_2_s]
      unfold B_X5_rideOn_2
      split
      · exact x
      · exact inner _ _ _ (fun X i y => ih X i y) _ _ _ x
  exact key _ _ _ ZX.rf
theorem zx_changeAll (h : Hp) (k : Int32) : ZX h (F_X5_changeAll h k) := by
  have inner : ∀ (h2 : Hp) (s : Nat) (rec2 : Hp → Nat → Hp), ZX h h2 → (∀ X i, ZX h X → ZX h (rec2 X i)) → ∀ (fu : Nat) (re : Int32) (a : Nat), ZX h (L_X5_changeAll_19 h k h2 s rec2 (K_X5_changeAll_19 h k h2 s rec2) fu re a) := by
    intro h2 s rec2 x hr fu
    induction fu with
    | zero => intro re a; exact ZX.rf
    | succ fu ih =>
      intro re a
      rw [L_X5_changeAll_19_s]
      unfold B_X5_changeAll_19
      split
      · exact hr _ _ (x.trans (ZX.put (by decide)))
      · exact ih _ _
  have key : ∀ (fu : Nat) (h2 : Hp) (i : Nat), ZX h h2 → ZX h (L_X5_changeAll_2 h k fu h2 i) := by
    intro fu
    induction fu with
    | zero => intro h2 i x; exact x
    | succ fu ih =>
      intro h2 i x
      rw [L_X5_changeAll_2_s]
      unfold B_X5_changeAll_2
      split
      · exact x
      · exact inner _ _ _ x (fun X i y => ih X i y) _ _ _
  exact key _ _ _ ZX.rf
/-- what seeking begins with -/
def T_seek (h : Hp) (a b ti : Int32) : Hp := H_fill (H_fill (sFI (sFI (sFI (sFI (sFI h 603 0 a) 604 0 b) 605 0 ti) 606 0 (F_X8_firstDayFor ti)) 607 0 (F_X8_lastDayFor ti)) 20 0 1000000000) 21 0 1000000000
theorem zx_T (h : Hp) (a b ti : Int32) : ZX h (T_seek h a b ti) := ((((((ZX.sfi (by decide)).trans (ZX.sfi (by decide))).trans (ZX.sfi (by decide))).trans (ZX.sfi (by decide))).trans (ZX.sfi (by decide))).trans (ZX.fill (by decide))).trans (ZX.fill (by decide))
theorem sk_loop (h : Hp) (a b ti n : Int32) : ∀ (fu : Nat) (h2 : Hp) (k : Nat), ZX h h2 → ZX h (L_X5_seek_56 h a b ti n fu h2 k) := by
  intro fu
  induction fu with
  | zero => intro h2 k x; exact x
  | succ fu ih =>
    intro h2 k x
    rw [L_X5_seek_56_s]
    unfold B_X5_seek_56
    split
    · exact x
    · split
      · exact x
      · exact ih _ _ ((x.trans (zx_rideOn _ _)).trans (zx_changeAll _ _))
theorem zx_seek (h : Hp) (a b ti n : Int32) : ZX h (F_X5_seek h a b ti n) := sk_loop h a b ti n _ _ _ ((zx_T h a b ti).trans (zx_setOut _))
theorem sk_ind (h h' : Hp) (a b ti n : Int32) : ∀ fu : Nat, L_X5_seek_56 h' a b ti n fu = L_X5_seek_56 h a b ti n fu := by
  intro fu
  induction fu with
  | zero => rfl
  | succ fu ih =>
    show B_X5_seek_56 h' a b ti n (L_X5_seek_56 h' a b ti n fu) = B_X5_seek_56 h a b ti n (L_X5_seek_56 h a b ti n fu)
    rw [ih]
    rfl
theorem T_eq {h h' : Hp} (x : ZX h h') (a b ti : Int32) : T_seek h' a b ti = T_seek h a b ti := by
  have e1 : xFI (T_seek h' a b ti) = xFI (T_seek h a b ti) := by
    funext f i
    by_cases n : f ∈ zF ∧ i = 0
    · obtain ⟨n1, rfl⟩ := n
      simp only [zF, List.mem_cons, List.not_mem_nil, or_false] at n1
      rcases n1 with rfl | rfl | rfl | rfl | rfl <;> rfl
    · rw [(zx_T h' a b ti).2.1 f i n, (zx_T h a b ti).2.1 f i n, x.2.1 f i n]
  have e2 : xAI (T_seek h' a b ti) = xAI (T_seek h a b ti) := by
    funext s i j
    by_cases n : s ∈ zA ∧ i = 0 ∧ j < 50
    · obtain ⟨n1, rfl, hj⟩ := n
      have l20 : ∀ X : Hp, cy_ln X 20 = 50 := fun X => rfl
      have l21 : ∀ X : Hp, cy_ln X 21 = 50 := fun X => rfl
      simp only [zA, List.mem_cons, List.not_mem_nil, or_false] at n1
      rcases n1 with rfl | rfl
      · have k : ∀ X : Hp, xAI (T_seek X a b ti) 20 0 j = 1000000000 := fun X => by
          unfold T_seek
          rw [ai_fill, if_neg (fun q => absurd q.1 (by decide)), ai_fill, if_pos ⟨rfl, rfl, by rw [l20]; exact hj⟩]
        rw [k, k]
      · have k : ∀ X : Hp, xAI (T_seek X a b ti) 21 0 j = 1000000000 := fun X => if_pos ⟨rfl, rfl, by rw [l21]; exact hj⟩
        rw [k, k]
    · rw [(zx_T h' a b ti).2.2 s i j n, (zx_T h a b ti).2.2 s i j n, x.2.2 s i j n]
  have e3 : (T_seek h' a b ti).2.1 = (T_seek h a b ti).2.1 := x.1.1
  have e4 : (T_seek h' a b ti).2.2.2 = (T_seek h a b ti).2.2.2 := x.1.2
  exact Prod.ext e1 (Prod.ext e3 (Prod.ext e2 e4))
/-- who seeks doesn't see what was there -/
theorem seek_eq {h h' : Hp} (x : ZX h h') (a b ti n : Int32) : F_X5_seek h' a b ti n = F_X5_seek h a b ti n := by
  have e := T_eq x a b ti
  show L_X5_seek_56 h' a b ti n (2147483648 - 1 + 1) (F_X5_setOut (T_seek h' a b ti)) 1 = L_X5_seek_56 h a b ti n (2147483648 - 1 + 1) (F_X5_setOut (T_seek h a b ti)) 1
  rw [e, sk_ind h h']
theorem GZ.ride {h : Hp} {t : Nat} {dy bo le : Int32} {o : Option Nat} : GZ h (F_X4_init (sNO h 5) (xCN h 5) t dy bo le o) := by
  have nn : ∀ {f k i : Nat}, k / 100 = 5 → i < xCN h (f / 100) → ¬ (f = k ∧ i = xCN h 5) := by
    rintro f k i hk o ⟨rfl, rfl⟩
    rw [hk] at o
    exact Nat.lt_irrefl _ o
  have n5 : ∀ {f i : Nat}, i < xCN h (f / 100) → ¬ (f / 100 = 5 ∧ i = xCN h 5) := by
    rintro f i o ⟨q, rfl⟩
    rw [q] at o
    exact Nat.lt_irrefl _ o
  refine ⟨fun f i o => ?_, fun f i n o => ?_, fun _ _ _ _ _ => rfl, fun s h3 h5 => if_neg h5, Nat.le_refl _, ?_, rfl⟩
  · show (if f = 504 ∧ i = xCN h 5 then _ else if f = 500 ∧ i = xCN h 5 then _ else if f / 100 = 5 ∧ i = xCN h 5 then none else xFR h f i) = _
    rw [if_neg (nn (by decide) o), if_neg (nn (by decide) o), if_neg (n5 o)]
  · show (if f = 503 ∧ i = xCN h 5 then _ else if f = 502 ∧ i = xCN h 5 then _ else if f = 501 ∧ i = xCN h 5 then _ else if f / 100 = 5 ∧ i = xCN h 5 then 0 else xFI h f i) = _
    rw [if_neg (nn (by decide) o), if_neg (nn (by decide) o), if_neg (nn (by decide) o), if_neg (n5 o)]
  · show xCN h 5 ≤ (if 5 = 5 then xCN h 5 + 1 else xCN h 5)
    rw [if_pos rfl]
    exact Nat.le_succ _
theorem GZ.jour {h : Hp} {ti : Int32} {o : Option Nat} {n wk en : Int32} : GZ h (F_X2_init (sNO h 3) (xCN h 3) ti o n wk en) := by
  have nn : ∀ {f k i : Nat}, k / 100 = 3 → i < xCN h (f / 100) → ¬ (f = k ∧ i = xCN h 3) := by
    rintro f k i hk o ⟨rfl, rfl⟩
    rw [hk] at o
    exact Nat.lt_irrefl _ o
  have n5 : ∀ {f i : Nat}, i < xCN h (f / 100) → ¬ (f / 100 = 3 ∧ i = xCN h 3) := by
    rintro f i o ⟨q, rfl⟩
    rw [q] at o
    exact Nat.lt_irrefl _ o
  refine ⟨fun f i o => ?_, fun f i n' o => ?_, fun _ _ _ _ _ => rfl, fun s h3 h5 => if_neg h3, ?_, Nat.le_refl _, rfl⟩
  · show (if f = 301 ∧ i = xCN h 3 then _ else if f / 100 = 3 ∧ i = xCN h 3 then none else xFR h f i) = _
    rw [if_neg (nn (by decide) o), if_neg (n5 o)]
  · show (if f = 304 ∧ i = xCN h 3 then _ else if f = 303 ∧ i = xCN h 3 then _ else if f = 302 ∧ i = xCN h 3 then _ else if f = 300 ∧ i = xCN h 3 then _ else if f / 100 = 3 ∧ i = xCN h 3 then 0 else xFI h f i) = _
    rw [if_neg (nn (by decide) o), if_neg (nn (by decide) o), if_neg (nn (by decide) o), if_neg (nn (by decide) o), if_neg (n5 o)]
  · show xCN h 3 ≤ (if 3 = 3 then xCN h 3 + 1 else xCN h 3)
    rw [if_pos rfl]
    exact Nat.le_succ _
theorem GZ.sfi5 {h h' : Hp} (g : GZ h h') {i : Nat} (hi : xCN h 5 ≤ i) (v : Int32) : GZ h (sFI h' 505 i v) :=
  ⟨g.1, fun f i' n o => by
    show (if f = 505 ∧ i' = i then v else xFI h' f i') = _
    by_cases q : f = 505 ∧ i' = i
    · exfalso
      obtain ⟨rfl, rfl⟩ := q
      have o : i' < xCN h 5 := o
      omega
    · rw [if_neg q]
      exact g.2.1 f i' n o, g.2.2.1, g.2.2.2.1, g.2.2.2.2.1, g.2.2.2.2.2.1, g.2.2.2.2.2.2⟩
theorem rt_gz {h : Hp} (s k : Int32) (o : Option Nat) : GZ h (F_X5_rideTo h s k o).2 := by
  have inner : ∀ (i : Nat) (rec3 : Nat → (Option Nat × Hp)) (kx : Int32 → (Option Nat × Hp)), (∀ d, GZ h (kx d).2) → ∀ (fu : Nat) (dy : Int32), GZ h (L_X5_rideTo_41 h s k o i rec3 kx fu dy).2 := by
    intro i rec3 kx hk fu
    induction fu with
    | zero => intro dy; exact GZ.rf
    | succ fu ih =>
      intro dy
      rw [L_X5_rideTo_41_s]
      unfold B_X5_rideTo_41
      split
      · exact hk _
      · split
        · exact hk _
        · generalize (if F_X7_goes h i dy = 0 then (-1) else F_X5_leavingPlace h i dy s (F_X5_arrivalAt h k s) : Int32) = lv
          generalize (if lv = -1 then (-1) else F_X5_boardingPlace h i dy lv k : Int32) = bd
          split
          · exact ih _
          · exact GZ.ride
  have outer : ∀ (fu i : Nat), GZ h (L_X5_rideTo_3 h s k o fu i).2 := by
    intro fu
    induction fu with
    | zero => intro i; exact GZ.rf
    | succ fu ih =>
      intro i
      rw [L_X5_rideTo_3_s]
      unfold B_X5_rideTo_3
      split
      · exact GZ.rf
      · exact inner i _ _ (fun d => ih (i + 1)) _ _
  exact outer _ 0
theorem tell_gz {h : Hp} (k : Nat) : GZ h (F_X5_tell h k).2 := by
  have key : ∀ (m : Nat) (h53 : Hp) (s : Int32) (fi : Option Nat), GZ h h53 → GZ h (L_X5_tell_53 h k (K_X5_tell_53 h k) m h53 s fi).2 := by
    intro m
    induction m with
    | zero =>
      intro h53 s fi g
      rw [L_X5_tell_53_z]
      unfold K_X5_tell_53
      exact g.trans GZ.jour
    | succ m ih =>
      intro h53 s fi g
      rw [L_X5_tell_53_s]
      unfold B_X5_tell_53
      have gr := rt_gz (h := h53) s (nI (m + 1)) fi
      split
      · exact g.trans gr
      · exact ih _ _ _ (g.trans (gr.sfi5 (Nat.le_refl _) _))
  unfold F_X5_tell
  split
  · exact key k h _ none GZ.rf
  · exact GZ.rf
