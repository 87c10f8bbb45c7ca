/-! ===== own: the class tells a journey ===== -/
/-- what a journey told tells -/
def ToldC (h HC T : Hp) (n a b ti : Nat) (e : Int32) (at' t d i j : Nat → Nat) : Prop :=
  TQ HC T ∧ xCN T 5 = xCN HC 5 + n ∧ xCN T 3 = xCN HC 3 + 1 ∧ xFI T 300 (xCN HC 3) = nI ti ∧ xFI T 302 (xCN HC 3) = nI n ∧ xFI T 303 (xCN HC 3) = toB h b (at' n) ∧ xFI T 304 (xCN HC 3) = e ∧
  rls T (xCN HC 3) = (List.range' 0 n).map (rid (xCN HC 5) n) ∧
  ∀ x, x < n → xFR T 500 (rid (xCN HC 5) n x) = some (t x) ∧ xFI T 501 (rid (xCN HC 5) n x) = nI (d x) ∧ xFI T 502 (rid (xCN HC 5) n x) = nI (i x) ∧ xFI T 503 (rid (xCN HC 5) n x) = nI (j x) ∧ xFI T 505 (rid (xCN HC 5) n x) = cgW h a at' t i x ∧ xFR T 504 (rid (xCN HC 5) n x) = if x + 1 < n then some (rid (xCN HC 5) n (x + 1)) else none
theorem chs_rid {fr : Nat → Nat → Option Nat} {c n : Nat} (hf : ∀ x, x < n → fr 504 (rid c n x) = if x + 1 < n then some (rid c n (x + 1)) else none) : ∀ (k x fu : Nat), x + k = n → k ≤ fu → chs fr fu (if x < n then some (rid c n x) else none) = (List.range' x k).map (rid c n) := by
  intro k
  induction k with
  | zero =>
    intro x fu hx hk
    rw [if_neg (by omega)]
    cases fu <;> rfl
  | succ k ih =>
    intro x fu hx hk
    obtain ⟨fu, rfl⟩ : ∃ g, fu = g + 1 := ⟨fu - 1, by omega⟩
    rw [if_pos (by omega)]
    show rid c n x :: chs fr fu (fr 504 (rid c n x)) = rid c n x :: (List.range' (x + 1) k).map (rid c n)
    rw [hf x (by omega), ih (x + 1) fu (by omega) (by omega)]
theorem tell_none {h : Hp} {n : Nat} (he : ¬ F_X5_end h (nI n) < 1000000000) : F_X5_tell h n = (none, h) := by
  unfold F_X5_tell
  rw [if_neg he]
theorem tell_told {h HC : Hp} {n0 n a b ti : Nat} {at' t d i j : Nat → Nat} (w : World h n0) (sm : Small h n0) (ha : a < n0) (hb : b < n0) (hti : ti ≤ 140000) (hn : n ≠ 0) (hn4 : n ≤ 4) (c : SearchC h HC n0 n a b ti) (he : (F_X5_end HC (nI n)).toInt ≤ 400000)
    (wy : Way h n0 (Rc HC) (Ec HC) (ti / 1440 - 1) (ti / 1440 + 1) b n (F_X5_end HC (nI n)).toInt at' t d i j) (hE : ∀ k, k ≠ 0 → k ≤ n → ∀ s, s < n0 → 0 ≤ Ec HC k s ∧ (Ec HC k s ≤ 300000 ∨ Ec HC k s = 1000000000)) :
    ∃ T, F_X5_tell HC n = (some (xCN HC 3), T) ∧ ToldC h HC T n a b ti (F_X5_end HC (nI n)) at' t d i j := by
  have h10 := w.1
  obtain ⟨wC, -⟩ := w.fx c.1 (by decide)
  have smC : Small HC n0 := fun x y hx hy => by rw [chI_fx c.1]; exact sm x y hx hy
  have eTo : ∀ s, toB HC b s = toB h b s := fun s => by unfold toB; rw [c.1.2.2 23 (by decide)]
  have lsC : LSt HC n0 (Ec HC n) b (F_X5_end HC (nI n)).toInt (at' n) := by
    have := wy.1
    unfold LSt OKE at this ⊢
    simp only [eTo]
    exact this
  have hat := lsC.1
  have eL := lastStop_spec wC smC (show n < 5 by omega) hb c.2.2.1 (hE n hn (Nat.le_refl _)) he lsC
  have eW : (if nI (at' n) = xFI HC 604 0 then 0 else F_X3_walk HC (nI (at' n)) (xFI HC 604 0)) = toB h b (at' n) := by
    rw [c.2.2.1, ← eTo]
    unfold toB
    by_cases e1 : at' n = b
    · rw [if_pos e1, if_pos (by rw [e1])]
    · rw [if_neg e1, if_neg (fun z => e1 (nI_inj (by omega) (by omega) z))]
      unfold F_X3_walk
      rw [ix10, at_in HC (n := 100) (by decide) rfl (by omega) (by decide)]
  have lt : F_X5_end HC (nI n) < 1000000000 := by
    rw [Int32.lt_iff_toInt_lt, N9]
    omega
  obtain ⟨X, s', ex, q1, q2, q3, q4⟩ := told_loop w sm ha hti hn4 c wy hE (K_X5_tell_53 HC n) n HC (nI (at' n)) none (Nat.le_refl _) hn (fun _ => rfl) (by rw [if_neg (Nat.lt_irrefl _)]) ⟨TQ.rf, by omega, rfl, fun x hx hxn => by omega⟩
  unfold F_X5_tell
  rw [if_pos lt, eL, ex]
  unfold K_X5_tell_53
  rw [eL, eW, q3]
  have e605 : xFI (sNO X 3) 605 0 = nI ti := ((TQ.sno (h := X) (s := 3) (.inr rfl)).2.1 605 (by decide) (by decide) 0).trans ((q1.2.1 605 (by decide) (by decide) 0).trans c.2.2.2.1)
  rw [e605]
  refine ⟨_, rfl, ?_⟩
  have tq : TQ HC (F_X2_init (sNO X 3) (xCN HC 3) (nI ti) (some (rid (xCN HC 5) n 0)) (nI n) (toB h b (at' n)) (F_X5_end HC (nI n))) :=
    (((((q1.trans (TQ.sno (.inr rfl))).trans (TQ.sfi (.inr rfl))).trans (TQ.sfr (.inr rfl))).trans (TQ.sfi (.inr rfl))).trans (TQ.sfi (.inr rfl))).trans (TQ.sfi (.inr rfl))
  have n5 : ∀ (f i : Nat), f / 100 = 5 → xFI (sNO X 3) f i = xFI X f i := fun f i hf => if_neg (fun z => by have := z.1; omega)
  have r5 : ∀ (f i : Nat), f / 100 = 5 → xFR (sNO X 3) f i = xFR X f i := fun f i hf => if_neg (fun z => by have := z.1; omega)
  have g5 : ∀ (f i : Nat), f / 100 = 5 → xFI (F_X2_init (sNO X 3) (xCN HC 3) (nI ti) (some (rid (xCN HC 5) n 0)) (nI n) (toB h b (at' n)) (F_X5_end HC (nI n))) f i = xFI X f i := fun f i hf => by
    unfold F_X2_init
    rw [fi_ne (by omega), fi_ne (by omega), fi_ne (by omega), fi_sfr, fi_ne (by omega), n5 f i hf]
  have s5 : ∀ (f i : Nat), f / 100 = 5 → xFR (F_X2_init (sNO X 3) (xCN HC 3) (nI ti) (some (rid (xCN HC 5) n 0)) (nI n) (toB h b (at' n)) (F_X5_end HC (nI n))) f i = xFR X f i := fun f i hf => by
    unfold F_X2_init
    rw [fr_sfi, fr_sfi, fr_sfi, fr_ne (by omega), fr_sfi, r5 f i hf]
  refine ⟨tq, ?_, ?_, ?_, ?_, ?_, ?_, ?_, fun x hx => ?_⟩
  · exact (up1_ne (f := xCN X) (a := 3) (x := 5) (v := xCN X 3 + 1) (by decide)).trans q2
  · exact (up1_eq (f := xCN X) (a := 3) (v := xCN X 3 + 1)).trans (by rw [q3])
  · unfold F_X2_init
    rw [fi_ne (by decide), fi_ne (by decide), fi_ne (by decide), fi_sfr, fi_eq]
  · unfold F_X2_init
    rw [fi_ne (by decide), fi_ne (by decide), fi_eq]
  · unfold F_X2_init
    rw [fi_ne (by decide), fi_eq]
  · unfold F_X2_init
    rw [fi_eq]
  · have e301 : xFR (F_X2_init (sNO X 3) (xCN HC 3) (nI ti) (some (rid (xCN HC 5) n 0)) (nI n) (toB h b (at' n)) (F_X5_end HC (nI n))) 301 (xCN HC 3) = if 0 < n then some (rid (xCN HC 5) n 0) else none := by
      rw [if_pos (by omega)]
      unfold F_X2_init
      rw [fr_sfi, fr_sfi, fr_sfi, fr_eq]
    unfold rls
    rw [e301]
    exact chs_rid (fun x hx => by
      rw [s5 504 _ (by decide)]
      exact (q4 x (Nat.zero_le _) hx).2.1) n 0 5 (by omega) (by omega)
  · obtain ⟨b1, b2, b3, b4, b5, b6⟩ := q4 x (Nat.zero_le _) hx
    rw [s5 500 _ (by decide), g5 501 _ (by decide), g5 502 _ (by decide), g5 503 _ (by decide), g5 505 _ (by decide), s5 504 _ (by decide)]
    exact ⟨b1, b3, b4, b5, b6, b2⟩
