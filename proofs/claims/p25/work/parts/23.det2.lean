/-! ===== own: answers of which something holds ===== -/
section DETP
variable {g : GT} {M : MT} {d uc us pc : Nat} {L : List (Nat × AV)} {st : List AV} {h : Hp} {Φ : Rs → Hp → Prop}
/-- one answer, one heap, of which P holds -/
def cy_detP (r0 : Rs) (h0 : Hp) (P : Prop) : Rs → Hp → Prop := fun r h => P ∧ r = r0 ∧ h = h0
theorem wx_staticDP {M' : MT} {index n d' bc bs : Nat} {As rest : List AV} {r0 : Option AV} {h0 : Hp} {P : Prop} (hok : CallOk M M' index n) (hl : Cond.methodLink (mO M) index (mY M') ∈ lw_tbl) (hst9 : Cond.static (mY M') ∈ lw_tbl) (hdd : d' + 1 ≤ d) (hC : Ctr g M' d' bc bs As h (cy_detP (.inl r0) h0 P)) (hst : st = As.reverse ++ rest) (hn : As.length = n) (hr8 : (rest.map cy_ct).sum ≤ 8)
    (hd : decode (mC M) pc = .ok (.invokestatic index, 3)) (kk : P → WP g M d uc us (pc + 3) L (r0.toList ++ rest) h0 Φ) : WP g M d (uc + bc) (us + bs) pc L st h Φ :=
  wx_static hok hl hst9 hdd hC hst hn hr8 hd (fun r h' e => by obtain ⟨hP, e1, rfl⟩ := e; cases e1; exact kk hP) (fun E h' e => nomatch e.2.1)
theorem wx_staticNDP {M' : MT} {index n d' bc bs : Nat} {host : String} {As rest : List AV} {r0 : Option AV} {h0 : Hp} {P : Prop} (hok : CallOk M M' index n) (hl : Cond.methodLinkNest (mO M) index (mY M') host ∈ lw_tbl) (hst9 : Cond.static (mY M') ∈ lw_tbl) (hdd : d' + 1 ≤ d) (hC : Ctr g M' d' bc bs As h (cy_detP (.inl r0) h0 P)) (hst : st = As.reverse ++ rest) (hn : As.length = n) (hr8 : (rest.map cy_ct).sum ≤ 8)
    (hd : decode (mC M) pc = .ok (.invokestatic index, 3)) (kk : P → WP g M d uc us (pc + 3) L (r0.toList ++ rest) h0 Φ) : WP g M d (uc + bc) (us + bs) pc L st h Φ :=
  wx_staticN hok hl hst9 hdd hC hst hn hr8 hd (fun r h' e => by obtain ⟨hP, e1, rfl⟩ := e; cases e1; exact kk hP) (fun E h' e => nomatch e.2.1)
theorem wx_virtualDP {M' : MT} {index n d' bc bs s i : Nat} {C : String} {T : u_T} {N : Nat} {ty : Nat → FieldType} {As rest : List AV} {r0 : Option AV} {h0 : Hp} {P : Prop} (hCl : ClsOk s C T N ty) (hCC : (mY M').cls = C) (hok : CallOk M M' index n) (hl : Cond.methodLink (mO M) index (mY M') ∈ lw_tbl) (hin : Cond.instanceMethod (mY M') ∈ lw_tbl) (hsel : Cond.selects C (mY M') (mY M') ∈ lw_tbl) (hdd : d' + 1 ≤ d) (hC : Ctr g M' d' bc bs (.inr (s, some i) :: As) h (cy_detP (.inl r0) h0 P)) (hst : st = As.reverse ++ .inr (s, some i) :: rest) (hn : As.length = n) (hr8 : (rest.map cy_ct).sum ≤ 8)
    (hd : decode (mC M) pc = .ok (.invokevirtual index, 3)) (kk : P → WP g M d uc us (pc + 3) L (r0.toList ++ rest) h0 Φ) : WP g M d (uc + bc) (us + bs) pc L st h Φ :=
  wx_virtual hCl hCC hok hl hin hsel hdd hC hst hn hr8 hd (fun r h' e => by obtain ⟨hP, e1, rfl⟩ := e; cases e1; exact kk hP) (fun E h' e => nomatch e.2.1)
theorem wx_ctorDP {M' : MT} {index n d' bc bs s i : Nat} {As rest : List AV} {h0 : Hp} {P : Prop} (hok : CallOk M M' index n) (hR9 : mR M' = none) (hY : (mY M').name = "<init>") (hl : Cond.methodLink (mO M) index (mY M') ∈ lw_tbl) (hin : Cond.instanceMethod (mY M') ∈ lw_tbl) (hdd : d' + 1 ≤ d) (hC : Ctr g M' d' bc bs (.inr (s, some i) :: As) h (cy_detP (.inl none) h0 P)) (hst : st = As.reverse ++ .inr (s, some i) :: rest) (hn : As.length = n) (hr8 : (rest.map cy_ct).sum ≤ 8)
    (hd : decode (mC M) pc = .ok (.invokespecial index, 3)) (kk : P → WP g M d uc us (pc + 3) L rest h0 Φ) : WP g M d (uc + bc) (us + bs) pc L st h Φ :=
  wx_ctor hok hR9 hY hl hin hdd hC hst hn hr8 hd (fun r h' e => by obtain ⟨hP, e1, rfl⟩ := e; cases e1; exact kk hP) (fun E h' e => nomatch e.2.1)
theorem wx_ctorNDP {M' : MT} {index n d' bc bs s i : Nat} {host : String} {As rest : List AV} {h0 : Hp} {P : Prop} (hok : CallOk M M' index n) (hR9 : mR M' = none) (hY : (mY M').name = "<init>") (hl : Cond.methodLinkNest (mO M) index (mY M') host ∈ lw_tbl) (hin : Cond.instanceMethod (mY M') ∈ lw_tbl) (hdd : d' + 1 ≤ d) (hC : Ctr g M' d' bc bs (.inr (s, some i) :: As) h (cy_detP (.inl none) h0 P)) (hst : st = As.reverse ++ .inr (s, some i) :: rest) (hn : As.length = n) (hr8 : (rest.map cy_ct).sum ≤ 8)
    (hd : decode (mC M) pc = .ok (.invokespecial index, 3)) (kk : P → WP g M d uc us (pc + 3) L rest h0 Φ) : WP g M d (uc + bc) (us + bs) pc L st h Φ :=
  wx_ctorN hok hR9 hY hl hin hdd hC hst hn hr8 hd (fun r h' e => by obtain ⟨hP, e1, rfl⟩ := e; cases e1; exact kk hP) (fun E h' e => nomatch e.2.1)
theorem detP_of {r0 : Rs} {h0 : Hp} {av : List AV} {bc bs : Nat} (hC : Ctr g M d bc bs av h (cy_det r0 h0)) {P : Prop} (p : P) : Ctr g M d bc bs av h (cy_detP r0 h0 P) := hC.imp fun _ _ e => ⟨p, e⟩
theorem det_of {r0 : Rs} {h0 : Hp} {av : List AV} {bc bs : Nat} {P : Prop} (hC : Ctr g M d bc bs av h (cy_detP r0 h0 P)) : Ctr g M d bc bs av h (cy_det r0 h0) := hC.imp fun _ _ e => e.2
theorem cy_nlt {i : Nat} {x : Int32} (hi : i < 2147483648) (hb : ¬ x ≤ nI i) : i < x.toNatClampNeg ∧ i + 1 < 2147483648 := by
  rw [Int32.le_iff_toInt_le, nI_toInt hi] at hb
  have h1 := Int32.toInt_lt x
  have h2 : x.toNatClampNeg = x.toInt.toNat := rfl
  omega
theorem cy_nle {i : Nat} {x : Int32} (hi : i < 2147483648) (hb : nI i ≤ x) (hx : x.toInt < 2147483647) : i ≤ x.toNatClampNeg ∧ i + 1 < 2147483648 := by
  rw [Int32.le_iff_toInt_le, nI_toInt hi] at hb
  have h2 : x.toNatClampNeg = x.toInt.toNat := rfl
  omega
theorem cy_inc {a b : Int32} (hb : a.toInt < b.toInt) : (a + 1).toInt = a.toInt + 1 := by
  have h1 := Int32.toInt_lt b
  have h2 := Int32.le_toInt a
  rw [Int32.toInt_add]
  have : (1 : Int32).toInt = 1 := by decide
  rw [this]
  refine Int.bmod_eq_of_le ?_ ?_ <;> omega
theorem cy_ilt {d x : Int32} (hb : ¬ x ≤ d) : (x.toInt - (d + 1).toInt).toNat < (x.toInt - d.toInt).toNat := by
  rw [Int32.le_iff_toInt_le] at hb
  rw [cy_inc (b := x) (by omega)]
  omega
/-- a place in a list -/
theorem cy_get {i n : Nat} (hi : i < 2147483648) (hn : n ≤ 3584) (hb : ¬ nI n ≤ nI i) : i < n := by
  exact Nat.lt_of_not_le fun q => hb ((nI_leI (by omega) hi).mpr q)
theorem cy_up {v x : Int32} (hb : ¬ x ≤ v) : (2147483647 - (v + 1).toInt).toNat < (2147483647 - v.toInt).toNat := by
  rw [Int32.le_iff_toInt_le] at hb
  have h1 := Int32.toInt_lt x
  rw [cy_inc (b := x) (by omega)]
  omega
theorem Chn.nxt {h : Hp} {n : Nat} {o : Option Nat} {R : List Nat} (hc : Chn (xFR h) n o R) (ho : ¬ o = none) : o = some (o.getD 0) ∧ xFR h 500 (o.getD 0) = some (tr h (o.getD 0)) ∧ tr h (o.getD 0) < n := by
  cases R with
  | nil => exact absurd hc ho
  | cons r R =>
    obtain ⟨rfl, a, b, _⟩ := hc.un
    exact ⟨rfl, a, b⟩
/-- the ride behind -/
def nx (h : Hp) (r : Nat) : Nat := (xFR h 504 r).getD 0
theorem wx_ifnullP {s : Nat} {o : Option Nat} {off : Int} {tgt : Nat} (hd : decode (mC M) pc = .ok (.ifnull off, 3)) (ht : (pc : Int) + off = (tgt : Int)) (kt : o = none → WP g M d uc us tgt L st h Φ) (kf : ¬ o = none → WP g M d uc us (pc + 3) L st h Φ) : WP g M d uc us pc L (.inr (s, o) :: st) h Φ :=
  wx_ifnull hd ht kt (fun q => kf (fun e => by obtain ⟨i, hi⟩ := q; rw [e] at hi; cases hi))
theorem wx_ifnonnullP {s : Nat} {o : Option Nat} {off : Int} {tgt : Nat} (hd : decode (mC M) pc = .ok (.ifnonnull off, 3)) (ht : (pc : Int) + off = (tgt : Int)) (kt : ¬ o = none → WP g M d uc us tgt L st h Φ) (kf : o = none → WP g M d uc us (pc + 3) L st h Φ) : WP g M d uc us pc L (.inr (s, o) :: st) h Φ :=
  wx_ifnonnull hd ht (fun q => kt (fun e => by obtain ⟨i, hi⟩ := q; rw [e] at hi; cases hi)) kf
theorem wp_by {uc' us' pc' : Nat} {L' : List (Nat × AV)} {st' : List AV} {h' : Hp} (f : WP g M d uc' us' pc' L' st' h' Φ → WP g M d uc us pc L st h Φ) (J : WP g M d uc' us' pc' L' st' h' Φ) : WP g M d uc us pc L st h Φ := f J
theorem SR.ch {h h' : Hp} (x : SR h h') {s : Nat} {o : Option Nat} {R : List Nat} (hc : Chn (xFR h) (xLS h s) o R) : Chn (xFR h') (xLS h' s) o R := by rw [x.eqv]; exact hc
theorem cy_ix {x : Int32} {n : Nat} (h0 : ¬ x < 0) (hn : n ≤ 3584) (h1 : x < nI n) : x = nI x.toNatClampNeg ∧ x.toNatClampNeg < n := by
  obtain ⟨j, hj, rfl⟩ := nI_of h0
  rw [nI_clamp (by omega)]
  exact ⟨rfl, (nI_ltI hj (by omega)).mp h1⟩
theorem Chn.ny {h : Hp} {n r : Nat} {R : List Nat} (hc : Chn (xFR h) n (xFR h 504 r) R) (ho : ¬ xFR h 504 r = none) : xFR h 504 r = some (nx h r) ∧ xFR h 500 (nx h r) = some (tr h (nx h r)) ∧ tr h (nx h r) < n := hc.nxt ho
theorem nI_s1 {m : Nat} (hm : m + 1 < 2147483648) : ¬ nI (m + 1) < 1 := nI_nlt (b := 1) (by omega) (by omega)
theorem nI_dec (m : Nat) : nI (m + 1) + (-1) = nI m := by
  have := nI_pred m
  rwa [Int32.sub_eq_add_neg] at this
theorem cy_sl (ad : Nat → Nat → Nat) (av : List AV) : (lg_sl (av.map (cy_cv ad))).length = (av.map fun v => if cy_ct v = 2 then 2 else 1).sum := by
  induction av with
  | nil => rfl
  | cons v av ih =>
    simp only [lg_sl, List.map_cons, List.flatMap_cons, List.length_append, cy_ct_cv, List.sum_cons] at ih ⊢
    rw [ih]
    split <;> rfl
theorem cy_bodyO {bc bs : Nat} {av : List AV} (hO : (mY M).cls = mO M) (hL : mL M = 0) (hp : plainName (mY M).cls = true) (hn : (av.map fun v => if cy_ct v = 2 then 2 else 1).sum ≤ mN M)
    (k : WP g M d bc bs 0 (cy_ar 0 av) [] h Φ) : Ctr g M d bc bs av h Φ := cy_body hO hL hp (by rw [cy_sl]; exact hn) k
theorem chs_len (fr : Nat → Nat → Option Nat) : ∀ (n : Nat) (o : Option Nat), (chs fr n o).length ≤ n := by
  intro n
  induction n with
  | zero => intro o; exact Nat.le_refl _
  | succ n ih =>
    intro o
    cases o with
    | none => exact Nat.zero_le _
    | some r => exact Nat.succ_le_succ (ih _)
theorem rls_len (h : Hp) (j : Nat) : (rls h j).length ≤ 5 := chs_len _ _ _
theorem cy_o2 {x : Int32} (h0 : ¬ x = 0) (h1 : ¬ x = 1) (h2 : ¬ x = 2) : x.toInt < 0 ∨ 2 < x.toInt := by
  have a0 : x.toInt ≠ 0 := fun e => h0 (Int32.toInt_inj.mp e)
  have a1 : x.toInt ≠ 1 := fun e => h1 (Int32.toInt_inj.mp e)
  have a2 : x.toInt ≠ 2 := fun e => h2 (Int32.toInt_inj.mp e)
  omega
theorem cy_o4 {x : Int32} (h0 : ¬ x = 0) (h1 : ¬ x = 1) (h2 : ¬ x = 2) (h3 : ¬ x = 3) (h4 : ¬ x = 4) : x.toInt < 0 ∨ 4 < x.toInt := by
  have a3 : x.toInt ≠ 3 := fun e => h3 (Int32.toInt_inj.mp e)
  have a4 : x.toInt ≠ 4 := fun e => h4 (Int32.toInt_inj.mp e)
  have := cy_o2 h0 h1 h2
  omega
theorem cy_le4 {k : Nat} (hk : k < 2147483648) (hb : ¬ 4 < nI k) : k ≤ 4 := Nat.le_of_not_lt fun q => hb (nI_lt (a := 4) q hk)
theorem wp_eq {L' : List (Nat × AV)} {st' : List AV} {h' : Hp} (J : WP g M d uc us pc L' st' h' Φ) (e1 : L' = L) (e2 : st' = st) (e3 : h' = h) : WP g M d uc us pc L st h Φ := by subst e1; subst e2; subst e3; exact J
end DETP
