/-! ===== own: what grows: new rides and journeys, and what nobody reads behind a call ===== -/
def scF : List Nat := [603, 604, 605, 606, 607, 701, 702, 703, 704, 1021, 1022, 1023, 1043]
def scA : List Nat := [20, 21, 27, 57, 58, 59, 60, 61, 62, 63, 64]
/-- a place of an object that was there -/
def oldP (h : Hp) (f i : Nat) : Prop := (f / 100 = 5 → i < xCN h 5) ∧ (f / 100 = 3 → i < xCN h 3)
/-- new rides, new journeys; else the same but for what nobody reads -/
def GR (h h' : Hp) : Prop :=
  (∀ f i, oldP h f i → xFR h' f i = xFR h f i) ∧ (∀ f, f ∉ scF → ∀ i, oldP h f i → xFI h' f i = xFI h f i) ∧ (∀ s, s ∉ scA → ∀ i j, xAI h' s i j = xAI h s i j) ∧
  (∀ s, s ≠ 3 → s ≠ 5 → xCN h' s = xCN h s) ∧ xCN h 3 ≤ xCN h' 3 ∧ xCN h 5 ≤ xCN h' 5 ∧ h'.2.2.2.2 = h.2.2.2.2
theorem GR.rf {h : Hp} : GR h h := ⟨fun _ _ _ => rfl, fun _ _ _ _ => rfl, fun _ _ _ _ => rfl, fun _ _ _ => rfl, Nat.le_refl _, Nat.le_refl _, rfl⟩
theorem oldP.up {h h' : Hp} (g : GR h h') {f i : Nat} (o : oldP h f i) : oldP h' f i := ⟨fun e => Nat.lt_of_lt_of_le (o.1 e) g.2.2.2.2.2.1, fun e => Nat.lt_of_lt_of_le (o.2 e) g.2.2.2.2.1⟩
theorem GR.trans {a b c : Hp} (x : GR a b) (y : GR b c) : GR a c :=
  ⟨fun f i o => (y.1 f i (o.up x)).trans (x.1 f i o), fun f hf i o => (y.2.1 f hf i (o.up x)).trans (x.2.1 f hf i o), fun s hs i j => (y.2.2.1 s hs i j).trans (x.2.2.1 s hs i j),
   fun s h3 h5 => (y.2.2.2.1 s h3 h5).trans (x.2.2.2.1 s h3 h5), Nat.le_trans x.2.2.2.2.1 y.2.2.2.2.1, Nat.le_trans x.2.2.2.2.2.1 y.2.2.2.2.2.1, y.2.2.2.2.2.2.trans x.2.2.2.2.2.2⟩
theorem GR.ls {h h' : Hp} (g : GR h h') : xLS h' = xLS h := congrArg (fun x => x.2.1) g.2.2.2.2.2.2
theorem GR.le {h h' : Hp} (g : GR h h') : xLE h' = xLE h := congrArg (fun x => x.1) g.2.2.2.2.2.2
theorem GR.fr {h h' : Hp} (g : GR h h') {f : Nat} (i : Nat) (h5 : f / 100 ≠ 5) (h3 : f / 100 ≠ 3) : xFR h' f i = xFR h f i := g.1 f i ⟨fun e => absurd e h5, fun e => absurd e h3⟩
/-- a chain among objects that were there -/
theorem Chn.old {fr fr' : Nat → Nat → Option Nat} {n m : Nat} (e : ∀ r, r < m → fr' 500 r = fr 500 r ∧ fr' 504 r = fr 504 r) : ∀ {R : List Nat} {o : Option Nat}, (∀ r, r ∈ R → r < m) → Chn fr n o R → Chn fr' n o R := by
  intro R
  induction R with
  | nil => intro o _ hc; exact hc
  | cons r R ih =>
    intro o hm hc
    obtain ⟨h1, ⟨t, h2, h3⟩, h4⟩ := hc
    have hr := e r (hm r List.mem_cons_self)
    refine ⟨h1, ⟨t, hr.1.trans h2, h3⟩, ?_⟩
    rw [hr.2]
    exact ih (fun q hq => hm q (List.mem_cons_of_mem _ hq)) h4
theorem chs_old {fr fr' : Nat → Nat → Option Nat} {m : Nat} (e : ∀ r, r < m → fr' 504 r = fr 504 r) : ∀ (n : Nat) (o : Option Nat), (∀ r, r ∈ chs fr n o → r < m) → chs fr' n o = chs fr n o := by
  intro n
  induction n with
  | zero => intro o _; rfl
  | succ n ih =>
    intro o hm
    cases o with
    | none => rfl
    | some r =>
      have hr := e r (hm r List.mem_cons_self)
      show r :: chs fr' n (fr' 504 r) = r :: chs fr n (fr 504 r)
      rw [hr, ih _ (fun q hq => hm q (List.mem_cons_of_mem _ hq))]
theorem chs_of {fr : Nat → Nat → Option Nat} {N : Nat} : ∀ (R : List Nat) (n : Nat) (o : Option Nat), Chn fr N o R → R.length ≤ n → chs fr n o = R := by
  intro R
  induction R with
  | nil =>
    intro n o hc _
    obtain rfl : o = none := hc
    cases n <;> rfl
  | cons r R ih =>
    intro n o hc hl
    obtain ⟨rfl, h2, h3⟩ := hc
    cases n with
    | zero => exact absurd hl (Nat.not_succ_le_zero _)
    | succ n =>
      show r :: chs fr n (fr 504 r) = r :: R
      rw [ih n _ h3 (Nat.le_of_succ_le_succ hl)]
theorem GR.bk {h h' : Hp} (g : GR h h') (b : Nat) : bj h' b = bj h b := by
  unfold bj
  rw [g.fr b (by decide) (by decide)]
/-- the rides of a booked journey stay -/
theorem GR.rl {h h' : Hp} (g : GR h h') {j : Nat} (hj : j < xCN h 3) (hr : ∀ r, r ∈ rls h j → r < xCN h 5) : rls h' j = rls h j := by
  unfold rls at hr ⊢
  rw [g.1 301 j ⟨fun e => absurd e (by decide), fun _ => hj⟩]
  exact chs_old (fun r hr => g.1 504 r ⟨fun _ => hr, fun e => absurd e (by decide)⟩) 5 _ hr
theorem GR.cw {h h' : Hp} (g : GR h h') (W : CW h) : CW h' := by
  have f1 : ∀ f ∈ cw_f1, f / 100 ≠ 5 ∧ f / 100 ≠ 3 := by decide
  have f2 : ∀ f ∈ cw_f2, f / 100 ≠ 5 ∧ f / 100 ≠ 3 := by decide
  refine ⟨fun f hf => ?_, fun t ht => ?_, ?_, ?_, ?_, fun b hb => ?_⟩
  · rw [g.fr 0 (f1 f hf).1 (f1 f hf).2]; exact W.fr hf
  · rw [g.ls] at ht
    rw [g.le]
    exact ⟨W.tle ht, fun f hf => by rw [g.fr t (f2 f hf).1 (f2 f hf).2]; exact W.tfr ht hf⟩
  · rw [g.ls]; exact W.t20
  · rw [g.ls]; exact W.b30
  · rw [g.2.2.2.1 15 (by decide) (by decide)]; exact W.c15
  · rw [g.ls] at hb
    have hr : ∀ r, r ∈ rls h (bj h b) → r < xCN h 5 := fun r hr => W.r5 hb hr
    rw [g.le, g.ls, g.bk, g.rl (W.j3 hb) hr]
    refine ⟨W.ble hb, ?_, ?_, Nat.lt_of_lt_of_le (W.j3 hb) g.2.2.2.2.1, fun r hr' => Nat.lt_of_lt_of_le (hr r hr') g.2.2.2.2.2.1⟩
    · rw [g.fr b (by decide) (by decide)]; exact W.jb hb
    · rw [g.1 301 _ ⟨fun e => absurd e (by decide), fun _ => W.j3 hb⟩]
      exact Chn.old (m := xCN h 5) (fun r hr => ⟨g.1 500 r ⟨fun _ => hr, fun e => absurd e (by decide)⟩, g.1 504 r ⟨fun _ => hr, fun e => absurd e (by decide)⟩⟩) hr (W.jc hb)
theorem GR.cn {h h' : Hp} (g : GR h h') (C : CN h) : CN h' := by
  unfold CN
  rw [g.ls, g.2.2.2.1 8 (by decide) (by decide), g.2.2.2.1 1 (by decide) (by decide)]
  exact ⟨C.1, fun s h1 h2 => by rw [g.2.2.2.1 s (by omega) (by omega)]; exact C.2.1 s h1 h2, C.2.2⟩
theorem GR.mw {h h' : Hp} (g : GR h h') (W : MW h) : MW h' := fun f h1 h2 h3 => by
  rw [g.fr 0 (by omega) (by omega)]
  exact W f h1 h2 h3
theorem GR.sfi {h : Hp} {k i : Nat} {v : Int32} (hk : k ∈ scF) : GR h (sFI h k i v) := ⟨fun _ _ _ => rfl, fun f hf i' _ => if_neg (fun q => hf (by rw [q.1]; exact hk)), fun _ _ _ _ => rfl, fun _ _ _ => rfl, Nat.le_refl _, Nat.le_refl _, rfl⟩
theorem GR.sfi5 {h h' : Hp} (g : GR h h') {i : Nat} (hi : xCN h 5 ≤ i) (v : Int32) : GR h (sFI h' 505 i v) :=
  ⟨g.1, fun f hf i' o => by
    show (if f = 505 ∧ i' = i then v else xFI h' f i') = _
    by_cases q : f = 505 ∧ i' = i
    · exfalso
      obtain ⟨rfl, rfl⟩ := q
      have := o.1 (by decide)
      omega
    · rw [if_neg q]
      exact g.2.1 f hf i' o, g.2.2.1, g.2.2.2.1, g.2.2.2.2.1, g.2.2.2.2.2.1, g.2.2.2.2.2.2⟩
/-- a new ride -/
theorem GR.ride {h : Hp} {t : Nat} {dy bo le : Int32} {o : Option Nat} : GR h (F_X4_init (sNO h 5) (xCN h 5) t dy bo le o) := by
  have nn : ∀ {f k i : Nat}, k / 100 = 5 → oldP h f i → ¬ (f = k ∧ i = xCN h 5) := by
    intro f k i hk o q
    obtain ⟨rfl, rfl⟩ := q
    exact absurd (o.1 hk) (Nat.lt_irrefl _)
  have n5 : ∀ {f i : Nat}, oldP h f i → ¬ (f / 100 = 5 ∧ i = xCN h 5) := by
    intro f i o q
    have := o.1 q.1
    omega
  refine ⟨fun f i o => ?_, fun f hf i o => ?_, fun _ _ _ _ => rfl, fun s h3 h5 => if_neg h5, Nat.le_refl _, ?_, rfl⟩
  · show (if f = 504 ∧ i = xCN h 5 then _ else if f = 500 ∧ i = xCN h 5 then _ else if f / 100 = 5 ∧ i = xCN h 5 then none else xFR h f i) = _
    rw [if_neg (nn (by decide) o), if_neg (nn (by decide) o), if_neg (n5 o)]
  · show (if f = 503 ∧ i = xCN h 5 then _ else if f = 502 ∧ i = xCN h 5 then _ else if f = 501 ∧ i = xCN h 5 then _ else if f / 100 = 5 ∧ i = xCN h 5 then 0 else xFI h f i) = _
    rw [if_neg (nn (by decide) o), if_neg (nn (by decide) o), if_neg (nn (by decide) o), if_neg (n5 o)]
  · show xCN h 5 ≤ (if 5 = 5 then xCN h 5 + 1 else xCN h 5)
    rw [if_pos rfl]
    exact Nat.le_succ _
/-- a new journey -/
theorem GR.jour {h : Hp} {ti : Int32} {o : Option Nat} {n wk en : Int32} : GR h (F_X2_init (sNO h 3) (xCN h 3) ti o n wk en) := by
  have nn : ∀ {f k i : Nat}, k / 100 = 3 → oldP h f i → ¬ (f = k ∧ i = xCN h 3) := by
    intro f k i hk o q
    obtain ⟨rfl, rfl⟩ := q
    exact absurd (o.2 hk) (Nat.lt_irrefl _)
  have n5 : ∀ {f i : Nat}, oldP h f i → ¬ (f / 100 = 3 ∧ i = xCN h 3) := by
    intro f i o q
    have := o.2 q.1
    omega
  refine ⟨fun f i o => ?_, fun f hf i o => ?_, fun _ _ _ _ => rfl, fun s h3 h5 => if_neg h3, ?_, Nat.le_refl _, rfl⟩
  · show (if f = 301 ∧ i = xCN h 3 then _ else if f / 100 = 3 ∧ i = xCN h 3 then none else xFR h f i) = _
    rw [if_neg (nn (by decide) o), if_neg (n5 o)]
  · show (if f = 304 ∧ i = xCN h 3 then _ else if f = 303 ∧ i = xCN h 3 then _ else if f = 302 ∧ i = xCN h 3 then _ else if f = 300 ∧ i = xCN h 3 then _ else if f / 100 = 3 ∧ i = xCN h 3 then 0 else xFI h f i) = _
    rw [if_neg (nn (by decide) o), if_neg (nn (by decide) o), if_neg (nn (by decide) o), if_neg (nn (by decide) o), if_neg (n5 o)]
  · show xCN h 3 ≤ (if 3 = 3 then xCN h 3 + 1 else xCN h 3)
    rw [if_pos rfl]
    exact Nat.le_succ _
/-! ===== own: a ride that is found ===== -/
theorem rt_spec {h : Hp} (W : CW h) (s k : Int32) (o : Option Nat) : ((F_X5_rideTo h s k o).1 = none ∧ (F_X5_rideTo h s k o).2 = h) ∨ ∃ t dy bo le, t < xLS h 11 ∧ F_X5_rideTo h s k o = (some (xCN h 5), F_X4_init (sNO h 5) (xCN h 5) t dy bo le o) := by
  have h20 := W.t20
  let P : Option Nat × Hp → Prop := fun r => (r.1 = none ∧ r.2 = h) ∨ ∃ t dy bo le, t < xLS h 11 ∧ r = (some (xCN h 5), F_X4_init (sNO h 5) (xCN h 5) t dy bo le o)
  have inner : ∀ (i : Nat) (rec3 : Nat → (Option Nat × Hp)) (kx : Int32 → (Option Nat × Hp)), i < xLS h 11 → (∀ d, P (kx d)) → ∀ (fu : Nat) (dy : Int32), P (L_X5_rideTo_41 h s k o i rec3 kx fu dy) := by
    intro i rec3 kx hi hk fu
    induction fu with
    | zero => intro dy; exact .inl ⟨rfl, rfl⟩
    | succ fu ih =>
      intro dy
      rw [L_X5_rideTo_41_s]
      unfold B_X5_rideTo_41
      split
      · exact hk _
      · split
        · exact hk _
        · generalize (if F_X7_goes h i dy = 0 then (-1) else F_X5_leavingPlace h i dy s (F_X5_arrivalAt h k s) : Int32) = lv
          generalize (if lv = -1 then (-1) else F_X5_boardingPlace h i dy lv k : Int32) = bd
          split
          · exact ih _
          · exact .inr ⟨i, dy, bd, lv, hi, rfl⟩
  have outer : ∀ (fu i : Nat), i ≤ xLS h 11 → P (L_X5_rideTo_3 h s k o fu i) := by
    intro fu
    induction fu with
    | zero => intro i _; exact .inl ⟨rfl, rfl⟩
    | succ fu ih =>
      intro i hi
      rw [L_X5_rideTo_3_s]
      unfold B_X5_rideTo_3
      split
      · exact .inl ⟨rfl, rfl⟩
      · rename_i hn
        have hlt := cy_get (by omega) (Nat.le_trans h20 (by decide)) hn
        exact inner i _ _ hlt (fun d => ih (i + 1) hlt) _ _
  exact outer _ 0 (Nat.zero_le _)
theorem rt_gr0 {h : Hp} (s k : Int32) (o : Option Nat) : GR h (F_X5_rideTo h s k o).2 := by
  have inner : ∀ (i : Nat) (rec3 : Nat → (Option Nat × Hp)) (kx : Int32 → (Option Nat × Hp)), (∀ d, GR h (kx d).2) → ∀ (fu : Nat) (dy : Int32), GR h (L_X5_rideTo_41 h s k o i rec3 kx fu dy).2 := by
    intro i rec3 kx hk fu
    induction fu with
    | zero => intro dy; exact GR.rf
    | succ fu ih =>
      intro dy
      rw [L_X5_rideTo_41_s]
      unfold B_X5_rideTo_41
      split
      · exact hk _
      · split
        · exact hk _
        · generalize (if F_X7_goes h i dy = 0 then (-1) else F_X5_leavingPlace h i dy s (F_X5_arrivalAt h k s) : Int32) = lv
          generalize (if lv = -1 then (-1) else F_X5_boardingPlace h i dy lv k : Int32) = bd
          split
          · exact ih _
          · exact GR.ride
  have outer : ∀ (fu i : Nat), GR h (L_X5_rideTo_3 h s k o fu i).2 := by
    intro fu
    induction fu with
    | zero => intro i; exact GR.rf
    | succ fu ih =>
      intro i
      rw [L_X5_rideTo_3_s]
      unfold B_X5_rideTo_3
      split
      · exact GR.rf
      · exact inner i _ _ (fun d => ih (i + 1)) _ _
  exact outer _ 0
theorem rt_gr {h : Hp} (_ : CW h) (s k : Int32) (o : Option Nat) : GR h (F_X5_rideTo h s k o).2 := rt_gr0 s k o
theorem rt_W {h : Hp} (W : CW h) (s k : Int32) (o : Option Nat) : CW (F_X5_rideTo h s k o).2 := (rt_gr W s k o).cw W
theorem rt_some {h : Hp} (W : CW h) {s k : Int32} {o : Option Nat} (he : ¬ (F_X5_rideTo h s k o).1 = none) : (F_X5_rideTo h s k o).1 = some (xCN h 5) ∧ xFR (F_X5_rideTo h s k o).2 500 (xCN h 5) = some (tr (F_X5_rideTo h s k o).2 (xCN h 5)) ∧ tr (F_X5_rideTo h s k o).2 (xCN h 5) < xLS (F_X5_rideTo h s k o).2 11 := by
  rcases rt_spec W s k o with ⟨e, -⟩ | ⟨t, dy, bo, le, ht, e⟩
  · exact absurd e he
  · rw [e]
    have e1 : xFR (F_X4_init (sNO h 5) (xCN h 5) t dy bo le o) 500 (xCN h 5) = some t := by
      show (if 500 = 504 ∧ xCN h 5 = xCN h 5 then o else if 500 = 500 ∧ xCN h 5 = xCN h 5 then some t else _) = _
      rw [if_neg (fun q => absurd q.1 (by decide)), if_pos ⟨rfl, rfl⟩]
    refine ⟨rfl, ?_, ?_⟩
    · unfold tr
      rw [e1]
      rfl
    · unfold tr
      rw [e1]
      exact ht
