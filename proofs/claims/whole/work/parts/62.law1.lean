/-! ===== own: the law's helpers ===== -/
/-- the shape of what a call answers -/
def SH (P : Option AV → Prop) (l : List String) (r : Rs) : Prop := (∃ v, P v ∧ r = .inl v) ∨ ∃ E, E ∈ l ∧ r = .inr E
def isI (v : Option AV) : Prop := ∃ x, v = some (.inl (.int x))
def isD (v : Option AV) : Prop := ∃ x, v = some (.inl (.double x))
def isV (v : Option AV) : Prop := v = none
theorem SH.v {P : Option AV → Prop} {l : List String} {r : Rs} {v : Option AV} (s : SH P l r) (e : .inl v = r) : P v := by
  rcases s with ⟨w, p, q⟩ | ⟨E, _, q⟩
  · rw [q] at e; cases e; exact p
  · rw [q] at e; cases e
theorem SH.x {P : Option AV → Prop} {l : List String} {r : Rs} {E : String} (s : SH P l r) (e : .inr E = r) : E ∈ l := by
  rcases s with ⟨w, p, q⟩ | ⟨E, p, q⟩
  · rw [q] at e; cases e
  · rw [q] at e; cases e; exact p
theorem SH.i {l : List String} {x : Int32} : SH isI l (.inl (some (.inl (.int x)))) := .inl ⟨_, ⟨_, rfl⟩, rfl⟩
theorem SH.d {l : List String} {x : UInt64} : SH isD l (.inl (some (.inl (.double x)))) := .inl ⟨_, ⟨_, rfl⟩, rfl⟩
theorem SH.n {l : List String} : SH isV l (.inl none) := .inl ⟨_, rfl, rfl⟩
theorem SH.e {P : Option AV → Prop} {l : List String} {E : String} (h : E ∈ l) : SH P l (.inr E) := .inr ⟨_, h, rfl⟩
theorem eW_mem (h : Hp) (a b : Int32) {l : List String} (h1 : cy_e1 ∈ l) (h3 : cy_e3 ∈ l) : eW h a b ∈ l := by unfold eW; split <;> assumption
/-- a helper's answer: which exception, 0 for none -/
def cdR (l : List String) : Rs → Int32
  | .inl _ => 0
  | .inr E => nI (l.idxOf E + 1)
/-- what it leaves in the law's row -/
def loI (r : Rs) (h : Hp) : Hp := match r with
  | .inl (some (.inl (.int v))) => sAL h v.toInt64
  | _ => h
def loB (r : Rs) (h : Hp) : Hp := match r with
  | .inl (some (.inl (.int v))) => sAL h (if v = 0 then 0 else 1)
  | _ => h
def loD (r : Rs) (h : Hp) : Hp := match r with
  | .inl (some (.inl (.double v))) => sAD h v
  | _ => h
def loV (_ : Rs) (h : Hp) : Hp := h

theorem sh_stop (h : Hp) (x : Int32) : SH isI [cy_e1, cy_e2] (F_X8_stop h x).1 := by
  unfold F_X8_stop
  repeat' split
  all_goals first | exact SH.i | exact SH.d | exact SH.n | exact SH.e (by first | exact List.mem_cons_self | exact List.mem_cons_of_mem _ List.mem_cons_self | exact List.mem_cons_of_mem _ (List.mem_cons_of_mem _ List.mem_cons_self)) | exact SH.e (eW_mem _ _ _ (by first | exact List.mem_cons_self | exact List.mem_cons_of_mem _ List.mem_cons_self | exact List.mem_cons_of_mem _ (List.mem_cons_of_mem _ List.mem_cons_self)) (by first | exact List.mem_cons_self | exact List.mem_cons_of_mem _ List.mem_cons_self | exact List.mem_cons_of_mem _ (List.mem_cons_of_mem _ List.mem_cons_self)))
theorem sh_footway (h : Hp) (a b mi : Int32) : SH isI [cy_e3, cy_e1] (F_X8_footway h a b mi).1 := by
  unfold F_X8_footway
  repeat' split
  all_goals first | exact SH.i | exact SH.d | exact SH.n | exact SH.e (by first | exact List.mem_cons_self | exact List.mem_cons_of_mem _ List.mem_cons_self | exact List.mem_cons_of_mem _ (List.mem_cons_of_mem _ List.mem_cons_self)) | exact SH.e (eW_mem _ _ _ (by first | exact List.mem_cons_self | exact List.mem_cons_of_mem _ List.mem_cons_self | exact List.mem_cons_of_mem _ (List.mem_cons_of_mem _ List.mem_cons_self)) (by first | exact List.mem_cons_self | exact List.mem_cons_of_mem _ List.mem_cons_self | exact List.mem_cons_of_mem _ (List.mem_cons_of_mem _ List.mem_cons_self)))
theorem sh_trip (h : Hp) (mo fi se da s mi : Int32) : SH isI [cy_e3, cy_e1, cy_e2] (F_X8_trip h mo fi se da s mi).1 := by
  unfold F_X8_trip
  repeat' split
  all_goals first | exact SH.i | exact SH.d | exact SH.n | exact SH.e (by first | exact List.mem_cons_self | exact List.mem_cons_of_mem _ List.mem_cons_self | exact List.mem_cons_of_mem _ (List.mem_cons_of_mem _ List.mem_cons_self)) | exact SH.e (eW_mem _ _ _ (by first | exact List.mem_cons_self | exact List.mem_cons_of_mem _ List.mem_cons_self | exact List.mem_cons_of_mem _ (List.mem_cons_of_mem _ List.mem_cons_self)) (by first | exact List.mem_cons_self | exact List.mem_cons_of_mem _ List.mem_cons_self | exact List.mem_cons_of_mem _ (List.mem_cons_of_mem _ List.mem_cons_self)))
theorem sh_calls (h : Hp) (t s ri wa : Int32) : SH isI [cy_e3, cy_e1, cy_e2] (F_X8_calls h t s ri wa).1 := by
  unfold F_X8_calls
  repeat' split
  all_goals first | exact SH.i | exact SH.d | exact SH.n | exact SH.e (by first | exact List.mem_cons_self | exact List.mem_cons_of_mem _ List.mem_cons_self | exact List.mem_cons_of_mem _ (List.mem_cons_of_mem _ List.mem_cons_self)) | exact SH.e (eW_mem _ _ _ (by first | exact List.mem_cons_self | exact List.mem_cons_of_mem _ List.mem_cons_self | exact List.mem_cons_of_mem _ (List.mem_cons_of_mem _ List.mem_cons_self)) (by first | exact List.mem_cons_self | exact List.mem_cons_of_mem _ List.mem_cons_self | exact List.mem_cons_of_mem _ (List.mem_cons_of_mem _ List.mem_cons_self)))
theorem sh_runs (h : Hp) (t dy v : Int32) : SH isI [cy_e3, cy_e1] (F_X8_runs h t dy v).1 := by
  unfold F_X8_runs
  repeat' split
  all_goals first | exact SH.i | exact SH.d | exact SH.n | exact SH.e (by first | exact List.mem_cons_self | exact List.mem_cons_of_mem _ List.mem_cons_self | exact List.mem_cons_of_mem _ (List.mem_cons_of_mem _ List.mem_cons_self)) | exact SH.e (eW_mem _ _ _ (by first | exact List.mem_cons_self | exact List.mem_cons_of_mem _ List.mem_cons_self | exact List.mem_cons_of_mem _ (List.mem_cons_of_mem _ List.mem_cons_self)) (by first | exact List.mem_cons_self | exact List.mem_cons_of_mem _ List.mem_cons_self | exact List.mem_cons_of_mem _ (List.mem_cons_of_mem _ List.mem_cons_self)))
theorem sh_delay (h : Hp) (t dy mi : Int32) : SH isI [cy_e3, cy_e1] (F_X8_delay h t dy mi).1 := by
  unfold F_X8_delay
  repeat' split
  all_goals first | exact SH.i | exact SH.d | exact SH.n | exact SH.e (by first | exact List.mem_cons_self | exact List.mem_cons_of_mem _ List.mem_cons_self | exact List.mem_cons_of_mem _ (List.mem_cons_of_mem _ List.mem_cons_self)) | exact SH.e (eW_mem _ _ _ (by first | exact List.mem_cons_self | exact List.mem_cons_of_mem _ List.mem_cons_self | exact List.mem_cons_of_mem _ (List.mem_cons_of_mem _ List.mem_cons_self)) (by first | exact List.mem_cons_self | exact List.mem_cons_of_mem _ List.mem_cons_self | exact List.mem_cons_of_mem _ (List.mem_cons_of_mem _ List.mem_cons_self)))
theorem sh_note (h : Hp) (t mi : Int32) : SH isI [cy_e3, cy_e1, cy_e2] (F_X8_note h t mi).1 := by
  unfold F_X8_note
  repeat' split
  all_goals first | exact SH.i | exact SH.d | exact SH.n | exact SH.e (by first | exact List.mem_cons_self | exact List.mem_cons_of_mem _ List.mem_cons_self | exact List.mem_cons_of_mem _ (List.mem_cons_of_mem _ List.mem_cons_self)) | exact SH.e (eW_mem _ _ _ (by first | exact List.mem_cons_self | exact List.mem_cons_of_mem _ List.mem_cons_self | exact List.mem_cons_of_mem _ (List.mem_cons_of_mem _ List.mem_cons_self)) (by first | exact List.mem_cons_self | exact List.mem_cons_of_mem _ List.mem_cons_self | exact List.mem_cons_of_mem _ (List.mem_cons_of_mem _ List.mem_cons_self)))
theorem sh_prices (h : Hp) (f ba ce su : Int32) : SH isV [cy_e3, cy_e1] (F_X8_prices h f ba ce su).1 := by
  unfold F_X8_prices
  repeat' split
  all_goals first | exact SH.i | exact SH.d | exact SH.n | exact SH.e (by first | exact List.mem_cons_self | exact List.mem_cons_of_mem _ List.mem_cons_self | exact List.mem_cons_of_mem _ (List.mem_cons_of_mem _ List.mem_cons_self)) | exact SH.e (eW_mem _ _ _ (by first | exact List.mem_cons_self | exact List.mem_cons_of_mem _ List.mem_cons_self | exact List.mem_cons_of_mem _ (List.mem_cons_of_mem _ List.mem_cons_self)) (by first | exact List.mem_cons_self | exact List.mem_cons_of_mem _ List.mem_cons_self | exact List.mem_cons_of_mem _ (List.mem_cons_of_mem _ List.mem_cons_self)))
theorem sh_arrival (h : Hp) (a b ti n : Int32) : SH isI [cy_e3, cy_e1] (F_X8_arrival h a b ti n).1 := by
  unfold F_X8_arrival
  repeat' split
  all_goals first | exact SH.i | exact SH.d | exact SH.n | exact SH.e (by first | exact List.mem_cons_self | exact List.mem_cons_of_mem _ List.mem_cons_self | exact List.mem_cons_of_mem _ (List.mem_cons_of_mem _ List.mem_cons_self)) | exact SH.e (eW_mem _ _ _ (by first | exact List.mem_cons_self | exact List.mem_cons_of_mem _ List.mem_cons_self | exact List.mem_cons_of_mem _ (List.mem_cons_of_mem _ List.mem_cons_self)) (by first | exact List.mem_cons_self | exact List.mem_cons_of_mem _ List.mem_cons_self | exact List.mem_cons_of_mem _ (List.mem_cons_of_mem _ List.mem_cons_self)))
theorem sh_arrivalAnew (h : Hp) (a b ti n : Int32) : SH isI [cy_e3, cy_e1] (F_X8_arrivalAnew h a b ti n).1 := by
  unfold F_X8_arrivalAnew
  repeat' split
  all_goals first | exact SH.i | exact SH.d | exact SH.n | exact SH.e (by first | exact List.mem_cons_self | exact List.mem_cons_of_mem _ List.mem_cons_self | exact List.mem_cons_of_mem _ (List.mem_cons_of_mem _ List.mem_cons_self)) | exact SH.e (eW_mem _ _ _ (by first | exact List.mem_cons_self | exact List.mem_cons_of_mem _ List.mem_cons_self | exact List.mem_cons_of_mem _ (List.mem_cons_of_mem _ List.mem_cons_self)) (by first | exact List.mem_cons_self | exact List.mem_cons_of_mem _ List.mem_cons_self | exact List.mem_cons_of_mem _ (List.mem_cons_of_mem _ List.mem_cons_self)))
theorem sh_front_L (h : Hp) (a b ti : Int32) : ∀ (fu : Nat) (le su : Int32) (k : Nat), k ≤ 5 → 5 < k + fu → SH isI [cy_e3, cy_e1] (L_X8_front_28 h a b ti fu le su k).1 := by
  intro fu
  induction fu with
  | zero => intro le su k h1 h2; omega
  | succ fu ih =>
    intro le su k h1 h2
    rw [L_X8_front_28_s]
    unfold B_X8_front_28
    split
    · exact SH.i
    · rename_i hk
      have := cy_le4 (by omega) hk
      split <;> exact ih _ _ _ (by omega) (by omega)
theorem sh_front (h : Hp) (a b ti : Int32) : SH isI [cy_e3, cy_e1] (F_X8_front h a b ti).1 := by
  unfold F_X8_front
  repeat' split
  all_goals first | exact sh_front_L _ _ _ _ _ _ _ _ (by omega) (by omega) | exact SH.i | exact SH.d | exact SH.n | exact SH.e (by first | exact List.mem_cons_self | exact List.mem_cons_of_mem _ List.mem_cons_self | exact List.mem_cons_of_mem _ (List.mem_cons_of_mem _ List.mem_cons_self)) | exact SH.e (eW_mem _ _ _ (by first | exact List.mem_cons_self | exact List.mem_cons_of_mem _ List.mem_cons_self | exact List.mem_cons_of_mem _ (List.mem_cons_of_mem _ List.mem_cons_self)) (by first | exact List.mem_cons_self | exact List.mem_cons_of_mem _ List.mem_cons_self | exact List.mem_cons_of_mem _ (List.mem_cons_of_mem _ List.mem_cons_self)))
theorem sh_ride (h : Hp) (a b ti n ri wh : Int32) : SH isI [cy_e3, cy_e1] (F_X8_ride h a b ti n ri wh).1 := by
  unfold F_X8_ride
  repeat' split
  all_goals first | exact SH.i | exact SH.d | exact SH.n | exact SH.e (by first | exact List.mem_cons_self | exact List.mem_cons_of_mem _ List.mem_cons_self | exact List.mem_cons_of_mem _ (List.mem_cons_of_mem _ List.mem_cons_self)) | exact SH.e (eW_mem _ _ _ (by first | exact List.mem_cons_self | exact List.mem_cons_of_mem _ List.mem_cons_self | exact List.mem_cons_of_mem _ (List.mem_cons_of_mem _ List.mem_cons_self)) (by first | exact List.mem_cons_self | exact List.mem_cons_of_mem _ List.mem_cons_self | exact List.mem_cons_of_mem _ (List.mem_cons_of_mem _ List.mem_cons_self)))
theorem sh_journey (h : Hp) (a b ti n wh : Int32) : SH isD [cy_e3, cy_e1] (F_X8_journey h a b ti n wh).1 := by
  unfold F_X8_journey
  repeat' split
  all_goals first | exact SH.i | exact SH.d | exact SH.n | exact SH.e (by first | exact List.mem_cons_self | exact List.mem_cons_of_mem _ List.mem_cons_self | exact List.mem_cons_of_mem _ (List.mem_cons_of_mem _ List.mem_cons_self)) | exact SH.e (eW_mem _ _ _ (by first | exact List.mem_cons_self | exact List.mem_cons_of_mem _ List.mem_cons_self | exact List.mem_cons_of_mem _ (List.mem_cons_of_mem _ List.mem_cons_self)) (by first | exact List.mem_cons_self | exact List.mem_cons_of_mem _ List.mem_cons_self | exact List.mem_cons_of_mem _ (List.mem_cons_of_mem _ List.mem_cons_self)))
theorem sh_best_L (h : Hp) (a b ti : Int32) : ∀ (fu : Nat) (h27 : Hp) (ch : Int32) (le : UInt64) (k : Nat), k ≤ 5 → 5 < k + fu → SH isI [cy_e3, cy_e1] (L_X8_best_27 h a b ti fu h27 ch le k).1 := by
  intro fu
  induction fu with
  | zero => intro h27 ch le k h1 h2; omega
  | succ fu ih =>
    intro h27 ch le k h1 h2
    rw [L_X8_best_27_s]
    unfold B_X8_best_27
    split
    · exact SH.i
    · rename_i hk
      have := cy_le4 (by omega) hk
      repeat' split
      all_goals exact ih _ _ _ _ (by omega) (by omega)
theorem sh_best (h : Hp) (a b ti : Int32) : SH isI [cy_e3, cy_e1] (F_X8_best h a b ti).1 := by
  unfold F_X8_best
  repeat' split
  all_goals first | exact sh_best_L _ _ _ _ _ _ _ _ _ (by omega) (by omega) | exact SH.i | exact SH.d | exact SH.n | exact SH.e (by first | exact List.mem_cons_self | exact List.mem_cons_of_mem _ List.mem_cons_self | exact List.mem_cons_of_mem _ (List.mem_cons_of_mem _ List.mem_cons_self)) | exact SH.e (eW_mem _ _ _ (by first | exact List.mem_cons_self | exact List.mem_cons_of_mem _ List.mem_cons_self | exact List.mem_cons_of_mem _ (List.mem_cons_of_mem _ List.mem_cons_self)) (by first | exact List.mem_cons_self | exact List.mem_cons_of_mem _ List.mem_cons_self | exact List.mem_cons_of_mem _ (List.mem_cons_of_mem _ List.mem_cons_self)))
theorem sh_book (h : Hp) (a b ti n : Int32) : SH isI [cy_e3, cy_e1, cy_e2] (F_X8_book h a b ti n).1 := by
  unfold F_X8_book
  repeat' split
  all_goals first | exact SH.i | exact SH.d | exact SH.n | exact SH.e (by first | exact List.mem_cons_self | exact List.mem_cons_of_mem _ List.mem_cons_self | exact List.mem_cons_of_mem _ (List.mem_cons_of_mem _ List.mem_cons_self)) | exact SH.e (eW_mem _ _ _ (by first | exact List.mem_cons_self | exact List.mem_cons_of_mem _ List.mem_cons_self | exact List.mem_cons_of_mem _ (List.mem_cons_of_mem _ List.mem_cons_self)) (by first | exact List.mem_cons_self | exact List.mem_cons_of_mem _ List.mem_cons_self | exact List.mem_cons_of_mem _ (List.mem_cons_of_mem _ List.mem_cons_self)))
theorem sh_buy (h : Hp) (x : Int32) : SH isI [cy_e3, cy_e2] (F_X8_buy h x).1 := by
  unfold F_X8_buy
  repeat' split
  all_goals first | exact SH.i | exact SH.d | exact SH.n | exact SH.e (by first | exact List.mem_cons_self | exact List.mem_cons_of_mem _ List.mem_cons_self | exact List.mem_cons_of_mem _ (List.mem_cons_of_mem _ List.mem_cons_self)) | exact SH.e (eW_mem _ _ _ (by first | exact List.mem_cons_self | exact List.mem_cons_of_mem _ List.mem_cons_self | exact List.mem_cons_of_mem _ (List.mem_cons_of_mem _ List.mem_cons_self)) (by first | exact List.mem_cons_self | exact List.mem_cons_of_mem _ List.mem_cons_self | exact List.mem_cons_of_mem _ (List.mem_cons_of_mem _ List.mem_cons_self)))
theorem sh_right (h : Hp) (x : Int32) : SH isI [cy_e3] (F_X8_right h x) := by
  unfold F_X8_right
  repeat' split
  all_goals first | exact SH.i | exact SH.d | exact SH.n | exact SH.e (by first | exact List.mem_cons_self | exact List.mem_cons_of_mem _ List.mem_cons_self | exact List.mem_cons_of_mem _ (List.mem_cons_of_mem _ List.mem_cons_self)) | exact SH.e (eW_mem _ _ _ (by first | exact List.mem_cons_self | exact List.mem_cons_of_mem _ List.mem_cons_self | exact List.mem_cons_of_mem _ (List.mem_cons_of_mem _ List.mem_cons_self)) (by first | exact List.mem_cons_self | exact List.mem_cons_of_mem _ List.mem_cons_self | exact List.mem_cons_of_mem _ (List.mem_cons_of_mem _ List.mem_cons_self)))
theorem sh_claim (h : Hp) (x : Int32) : SH isI [cy_e3, cy_e2] (F_X8_claim h x).1 := by
  unfold F_X8_claim
  repeat' split
  all_goals first | exact SH.i | exact SH.d | exact SH.n | exact SH.e (by first | exact List.mem_cons_self | exact List.mem_cons_of_mem _ List.mem_cons_self | exact List.mem_cons_of_mem _ (List.mem_cons_of_mem _ List.mem_cons_self)) | exact SH.e (eW_mem _ _ _ (by first | exact List.mem_cons_self | exact List.mem_cons_of_mem _ List.mem_cons_self | exact List.mem_cons_of_mem _ (List.mem_cons_of_mem _ List.mem_cons_self)) (by first | exact List.mem_cons_self | exact List.mem_cons_of_mem _ List.mem_cons_self | exact List.mem_cons_of_mem _ (List.mem_cons_of_mem _ List.mem_cons_self)))
theorem sh_concerned_L (h : Hp) (t dy : Int32) (hb : xLS h 12 ≤ 30) : ∀ (fu : Nat) (su : Int32) (i : Nat), i ≤ 30 → 31 < i + fu → SH isI [cy_e3, cy_e1] (L_X8_concerned_19 h t dy fu su i) := by
  intro fu
  induction fu with
  | zero => intro su i h1 h2; omega
  | succ fu ih =>
    intro su i h1 h2
    rw [L_X8_concerned_19_s]
    unfold B_X8_concerned_19
    split
    · exact SH.i
    · rename_i hk
      have := cy_get (by omega) (Nat.le_trans hb (by omega)) hk
      repeat' split
      all_goals exact ih _ _ (by omega) (by omega)
theorem sh_concerned (h : Hp) (t dy : Int32) (W : CW h) : SH isI [cy_e3, cy_e1] (F_X8_concerned h t dy) := by
  unfold F_X8_concerned
  repeat' split
  all_goals first | exact sh_concerned_L _ _ _ W.b30 _ _ _ (by omega) (by omega) | exact SH.i | exact SH.d | exact SH.n | exact SH.e (by first | exact List.mem_cons_self | exact List.mem_cons_of_mem _ List.mem_cons_self | exact List.mem_cons_of_mem _ (List.mem_cons_of_mem _ List.mem_cons_self)) | exact SH.e (eW_mem _ _ _ (by first | exact List.mem_cons_self | exact List.mem_cons_of_mem _ List.mem_cons_self | exact List.mem_cons_of_mem _ (List.mem_cons_of_mem _ List.mem_cons_self)) (by first | exact List.mem_cons_self | exact List.mem_cons_of_mem _ List.mem_cons_self | exact List.mem_cons_of_mem _ (List.mem_cons_of_mem _ List.mem_cons_self)))
theorem sh_seats (h : Hp) (t dy : Int32) : SH isI [cy_e3, cy_e1] (F_X8_seats h t dy) := by
  unfold F_X8_seats
  repeat' split
  all_goals first | exact SH.i | exact SH.d | exact SH.n | exact SH.e (by first | exact List.mem_cons_self | exact List.mem_cons_of_mem _ List.mem_cons_self | exact List.mem_cons_of_mem _ (List.mem_cons_of_mem _ List.mem_cons_self)) | exact SH.e (eW_mem _ _ _ (by first | exact List.mem_cons_self | exact List.mem_cons_of_mem _ List.mem_cons_self | exact List.mem_cons_of_mem _ (List.mem_cons_of_mem _ List.mem_cons_self)) (by first | exact List.mem_cons_self | exact List.mem_cons_of_mem _ List.mem_cons_self | exact List.mem_cons_of_mem _ (List.mem_cons_of_mem _ List.mem_cons_self)))
theorem sh_pass_L (h : Hp) (x : Int32) : ∀ (fu : Nat) (h22 : Hp) (dr : Int32) (i : Nat), xLS h22 12 ≤ 30 → i ≤ 30 → 31 < i + fu → SH isI [cy_e1] (L_X8_pass_22 h x fu h22 dr i).1 := by
  intro fu
  induction fu with
  | zero => intro h22 dr i h0 h1 h2; omega
  | succ fu ih =>
    intro h22 dr i h0 h1 h2
    rw [L_X8_pass_22_s]
    unfold B_X8_pass_22
    split
    · exact SH.i
    · rename_i hk
      have := cy_get (by omega) (Nat.le_trans h0 (by omega)) hk
      repeat' split
      all_goals exact ih _ _ _ h0 (by omega) (by omega)
theorem sh_pass (h : Hp) (x : Int32) (W : CW h) : SH isI [cy_e1] (F_X8_pass h x).1 := by
  unfold F_X8_pass
  repeat' split
  all_goals first | exact sh_pass_L _ _ _ _ _ _ W.b30 (by omega) (by omega) | exact SH.i | exact SH.d | exact SH.n | exact SH.e (by first | exact List.mem_cons_self | exact List.mem_cons_of_mem _ List.mem_cons_self | exact List.mem_cons_of_mem _ (List.mem_cons_of_mem _ List.mem_cons_self)) | exact SH.e (eW_mem _ _ _ (by first | exact List.mem_cons_self | exact List.mem_cons_of_mem _ List.mem_cons_self | exact List.mem_cons_of_mem _ (List.mem_cons_of_mem _ List.mem_cons_self)) (by first | exact List.mem_cons_self | exact List.mem_cons_of_mem _ List.mem_cons_self | exact List.mem_cons_of_mem _ (List.mem_cons_of_mem _ List.mem_cons_self)))
theorem sh_ofBooking (h : Hp) (x wh : Int32) : SH isI [cy_e3, cy_e1] (F_X8_ofBooking h x wh) := by
  unfold F_X8_ofBooking
  repeat' split
  all_goals first | exact SH.i | exact SH.d | exact SH.n | exact SH.e (by first | exact List.mem_cons_self | exact List.mem_cons_of_mem _ List.mem_cons_self | exact List.mem_cons_of_mem _ (List.mem_cons_of_mem _ List.mem_cons_self)) | exact SH.e (eW_mem _ _ _ (by first | exact List.mem_cons_self | exact List.mem_cons_of_mem _ List.mem_cons_self | exact List.mem_cons_of_mem _ (List.mem_cons_of_mem _ List.mem_cons_self)) (by first | exact List.mem_cons_self | exact List.mem_cons_of_mem _ List.mem_cons_self | exact List.mem_cons_of_mem _ (List.mem_cons_of_mem _ List.mem_cons_self)))
set_option maxRecDepth 20000 in
theorem c_L_stop {g : GT} {d : Nat} (hd : 8 ≤ d) {h : Hp} (W : CW h) (x : Int32)  : Ctr g M_L_stop d 2 12 [.inr (9, some 0), .inl (.int x), .inr (17, some 0)] h (cy_det (.inl (some (.inl (.int (cdR [cy_e1, cy_e2] (F_X8_stop h x).1))))) (loI (F_X8_stop h x).1 ((F_X8_stop h x).2))) := by
  refine cy_body rfl rfl (by decide) (Nat.le_of_ble_eq_true rfl) ?_
  refine wp_run [(.aload_n 2, 1), (.iconst 0, 1), (.aload_n 0, 1), (.iload_n 1, 1)] (pc' := 4) (L' := [(0, .inr (9, some 0)), (1, .inl (.int x)), (2, .inr (17, some 0))]) (st' := [.inl (.int x), .inr (9, some 0), .inl (.int 0), .inr (17, some 0)]) ⟨dL_stop_0, dL_stop_1, dL_stop_2, dL_stop_3, trivial⟩ rfl rfl ?_
  refine wx_virtual (M := M_L_stop) (uc := 0) (us := 0) (s := 9) (i := 0) (As := [.inl (.int x)]) (rest := [.inl (.int 0), .inr (17, some 0)]) cls_9 rfl (ok_X8_stop _ _) ml_L_7 im_X8_stop se_X8_stop (by omega) (c_X8_stop (d := d - 1) (h := h) (by omega) W x) rfl rfl (Nat.le_of_ble_eq_true rfl) dL_stop_4 (fun r9 h9 e9 => ?_) (fun E9 h9 e9 => ?_)
  · obtain ⟨_, e1, rfl⟩ := e9
    obtain ⟨v9, rfl⟩ := (sh_stop h x).v e1
    refine wp_run [(.i2l, 1)] (pc' := 8) (L' := [(0, .inr (9, some 0)), (1, .inl (.int x)), (2, .inr (17, some 0))]) (st' := [.inl (.long ((v9).toInt64)), .inl (.int 0), .inr (17, some 0)]) ⟨dL_stop_7, trivial⟩ rfl rfl ?_
    refine wx_last dL_stop_8 ?_
    refine wx_goto (tgt := 18) dL_stop_9 (by decide) ?_
    refine wp_run [(.iconst 0, 1)] (pc' := 19) (L' := [(0, .inr (9, some 0)), (1, .inl (.int x)), (2, .inr (17, some 0))]) (st' := [.inl (.int 0)]) ⟨dL_stop_18, trivial⟩ rfl rfl ?_
    exact wx_iret rfl rfl dL_stop_19 (by rw [← e1]; exact ⟨rfl, rfl⟩)
  · obtain ⟨_, e1, rfl⟩ := e9
    have hm := (sh_stop h x).x e1
    simp only [List.mem_cons, List.not_mem_nil, or_false] at hm
    rcases hm with rfl | rfl
    · refine wx_catch rfl [] ⟨0, 9, 12, 13⟩ [⟨0, 9, 15, 15⟩] rfl (fun z hz => by cases hz) (by decide) (by decide) exl_1 exc_1 (fun q9 => ?_)
      refine wx_astoreX (by decide) dL_stop_12 ?_ (by intro p hp; simp only [List.mem_cons, List.not_mem_nil, or_false] at hp; rcases hp with rfl | rfl | rfl <;> exact ⟨by dsimp only; decide, fun q => absurd (show (1 : Nat) = 2 from q.2) (by decide)⟩)
      refine wp_run [(.iconst 1, 1)] (pc' := 14) (L' := [(0, .inr (9, some 0)), (1, .inl (.int x)), (2, .inr (17, some 0))]) (st' := [.inl (.int 1)]) ⟨dL_stop_13, trivial⟩ rfl rfl ?_
      exact wx_iret rfl rfl dL_stop_14 (by rw [← e1]; exact ⟨by rw [show cdR [cy_e1, cy_e2] (.inr cy_e1) = 1 by decide +kernel], rfl⟩)
    · refine wx_catch rfl [⟨0, 9, 12, 13⟩] ⟨0, 9, 15, 15⟩ [] rfl (fun z hz => by
        simp only [List.mem_cons, List.not_mem_nil, or_false] at hz
        obtain rfl := hz
        exact .inr ⟨by decide, cy_e1, exl_1, by decide +kernel⟩) (by decide) (by decide) exl_2 exc_2 (fun q9 => ?_)
      refine wx_astoreX (by decide) dL_stop_15 ?_ (by intro p hp; simp only [List.mem_cons, List.not_mem_nil, or_false] at hp; rcases hp with rfl | rfl | rfl <;> exact ⟨by dsimp only; decide, fun q => absurd (show (1 : Nat) = 2 from q.2) (by decide)⟩)
      refine wp_run [(.iconst 2, 1)] (pc' := 17) (L' := [(0, .inr (9, some 0)), (1, .inl (.int x)), (2, .inr (17, some 0))]) (st' := [.inl (.int 2)]) ⟨dL_stop_16, trivial⟩ rfl rfl ?_
      exact wx_iret rfl rfl dL_stop_17 (by rw [← e1]; exact ⟨by rw [show cdR [cy_e1, cy_e2] (.inr cy_e2) = 2 by decide +kernel], rfl⟩)
set_option maxRecDepth 20000 in
theorem c_L_footway {g : GT} {d : Nat} (hd : 8 ≤ d) {h : Hp} (W : CW h) (a : Int32) (b : Int32) (mi : Int32)  : Ctr g M_L_footway d 4 24 [.inr (9, some 0), .inl (.int a), .inl (.int b), .inl (.int mi), .inr (17, some 0)] h (cy_det (.inl (some (.inl (.int (cdR [cy_e3, cy_e1] (F_X8_footway h a b mi).1))))) (loI (F_X8_footway h a b mi).1 ((F_X8_footway h a b mi).2))) := by
  refine cy_body rfl rfl (by decide) (Nat.le_of_ble_eq_true rfl) ?_
  refine wp_run [(.aload 4, 2), (.iconst 0, 1), (.aload_n 0, 1), (.iload_n 1, 1), (.iload_n 2, 1), (.iload_n 3, 1)] (pc' := 7) (L' := [(0, .inr (9, some 0)), (1, .inl (.int a)), (2, .inl (.int b)), (3, .inl (.int mi)), (4, .inr (17, some 0))]) (st' := [.inl (.int mi), .inl (.int b), .inl (.int a), .inr (9, some 0), .inl (.int 0), .inr (17, some 0)]) ⟨dL_footway_0, dL_footway_2, dL_footway_3, dL_footway_4, dL_footway_5, dL_footway_6, trivial⟩ rfl rfl ?_
  refine wx_virtual (M := M_L_footway) (uc := 0) (us := 0) (s := 9) (i := 0) (As := [.inl (.int a), .inl (.int b), .inl (.int mi)]) (rest := [.inl (.int 0), .inr (17, some 0)]) cls_9 rfl (ok_X8_footway _ _) ml_L_17 im_X8_footway se_X8_footway (by omega) (c_X8_footway (d := d - 1) (h := h) (by omega) W a b mi) rfl rfl (Nat.le_of_ble_eq_true rfl) dL_footway_7 (fun r9 h9 e9 => ?_) (fun E9 h9 e9 => ?_)
  · obtain ⟨_, e1, rfl⟩ := e9
    obtain ⟨v9, rfl⟩ := (sh_footway h a b mi).v e1
    refine wp_run [(.i2l, 1)] (pc' := 11) (L' := [(0, .inr (9, some 0)), (1, .inl (.int a)), (2, .inl (.int b)), (3, .inl (.int mi)), (4, .inr (17, some 0))]) (st' := [.inl (.long ((v9).toInt64)), .inl (.int 0), .inr (17, some 0)]) ⟨dL_footway_10, trivial⟩ rfl rfl ?_
    refine wx_last dL_footway_11 ?_
    refine wx_goto (tgt := 23) dL_footway_12 (by decide) ?_
    refine wp_run [(.iconst 0, 1)] (pc' := 24) (L' := [(0, .inr (9, some 0)), (1, .inl (.int a)), (2, .inl (.int b)), (3, .inl (.int mi)), (4, .inr (17, some 0))]) (st' := [.inl (.int 0)]) ⟨dL_footway_23, trivial⟩ rfl rfl ?_
    exact wx_iret rfl rfl dL_footway_24 (by rw [← e1]; exact ⟨rfl, rfl⟩)
  · obtain ⟨_, e1, rfl⟩ := e9
    have hm := (sh_footway h a b mi).x e1
    simp only [List.mem_cons, List.not_mem_nil, or_false] at hm
    rcases hm with rfl | rfl
    · refine wx_catch rfl [] ⟨0, 12, 15, 21⟩ [⟨0, 12, 19, 13⟩] rfl (fun z hz => by cases hz) (by decide) (by decide) exl_3 exc_3 (fun q9 => ?_)
      refine wx_astoreY (by decide) dL_footway_15 ?_ (by intro p hp; simp only [List.mem_cons, List.not_mem_nil, or_false] at hp; rcases hp with rfl | rfl | rfl | rfl | rfl <;> exact ⟨by dsimp only; decide, fun q => absurd (show (1 : Nat) = 2 from q.2) (by decide)⟩)
      refine wp_run [(.iconst 1, 1)] (pc' := 18) (L' := [(0, .inr (9, some 0)), (1, .inl (.int a)), (2, .inl (.int b)), (3, .inl (.int mi)), (4, .inr (17, some 0))]) (st' := [.inl (.int 1)]) ⟨dL_footway_17, trivial⟩ rfl rfl ?_
      exact wx_iret rfl rfl dL_footway_18 (by rw [← e1]; exact ⟨by rw [show cdR [cy_e3, cy_e1] (.inr cy_e3) = 1 by decide +kernel], rfl⟩)
    · refine wx_catch rfl [⟨0, 12, 15, 21⟩] ⟨0, 12, 19, 13⟩ [] rfl (fun z hz => by
        simp only [List.mem_cons, List.not_mem_nil, or_false] at hz
        obtain rfl := hz
        exact .inr ⟨by decide, cy_e3, exl_3, by decide +kernel⟩) (by decide) (by decide) exl_1 exc_1 (fun q9 => ?_)
      refine wx_astoreY (by decide) dL_footway_19 ?_ (by intro p hp; simp only [List.mem_cons, List.not_mem_nil, or_false] at hp; rcases hp with rfl | rfl | rfl | rfl | rfl <;> exact ⟨by dsimp only; decide, fun q => absurd (show (1 : Nat) = 2 from q.2) (by decide)⟩)
      refine wp_run [(.iconst 2, 1)] (pc' := 22) (L' := [(0, .inr (9, some 0)), (1, .inl (.int a)), (2, .inl (.int b)), (3, .inl (.int mi)), (4, .inr (17, some 0))]) (st' := [.inl (.int 2)]) ⟨dL_footway_21, trivial⟩ rfl rfl ?_
      exact wx_iret rfl rfl dL_footway_22 (by rw [← e1]; exact ⟨by rw [show cdR [cy_e3, cy_e1] (.inr cy_e1) = 2 by decide +kernel], rfl⟩)
set_option maxRecDepth 20000 in
theorem c_L_trip {g : GT} {d : Nat} (hd : 14 ≤ d) {h : Hp} (W : CW h) (mo : Int32) (fi : Int32) (se : Int32) (da : Int32) (s : Int32) (mi : Int32) (C : CN h)  : Ctr g M_L_trip d 14 400 [.inr (9, some 0), .inl (.int mo), .inl (.int fi), .inl (.int se), .inl (.int da), .inl (.int s), .inl (.int mi), .inr (17, some 0)] h (cy_det (.inl (some (.inl (.int (cdR [cy_e3, cy_e1, cy_e2] (F_X8_trip h mo fi se da s mi).1))))) (loI (F_X8_trip h mo fi se da s mi).1 ((F_X8_trip h mo fi se da s mi).2))) := by
  refine cy_body rfl rfl (by decide) (Nat.le_of_ble_eq_true rfl) ?_
  refine wp_run [(.aload 7, 2), (.iconst 0, 1), (.aload_n 0, 1), (.iload_n 1, 1), (.iload_n 2, 1), (.iload_n 3, 1), (.iload 4, 2), (.iload 5, 2), (.iload 6, 2)] (pc' := 13) (L' := [(0, .inr (9, some 0)), (1, .inl (.int mo)), (2, .inl (.int fi)), (3, .inl (.int se)), (4, .inl (.int da)), (5, .inl (.int s)), (6, .inl (.int mi)), (7, .inr (17, some 0))]) (st' := [.inl (.int mi), .inl (.int s), .inl (.int da), .inl (.int se), .inl (.int fi), .inl (.int mo), .inr (9, some 0), .inl (.int 0), .inr (17, some 0)]) ⟨dL_trip_0, dL_trip_2, dL_trip_3, dL_trip_4, dL_trip_5, dL_trip_6, dL_trip_7, dL_trip_9, dL_trip_11, trivial⟩ rfl rfl ?_
  refine wx_virtual (M := M_L_trip) (uc := 0) (us := 0) (s := 9) (i := 0) (As := [.inl (.int mo), .inl (.int fi), .inl (.int se), .inl (.int da), .inl (.int s), .inl (.int mi)]) (rest := [.inl (.int 0), .inr (17, some 0)]) cls_9 rfl (ok_X8_trip _ _) ml_L_23 im_X8_trip se_X8_trip (by omega) (c_X8_trip (d := d - 1) (h := h) (by omega) W mo fi se da s mi C) rfl rfl (Nat.le_of_ble_eq_true rfl) dL_trip_13 (fun r9 h9 e9 => ?_) (fun E9 h9 e9 => ?_)
  · obtain ⟨_, e1, rfl⟩ := e9
    obtain ⟨v9, rfl⟩ := (sh_trip h mo fi se da s mi).v e1
    refine wp_run [(.i2l, 1)] (pc' := 17) (L' := [(0, .inr (9, some 0)), (1, .inl (.int mo)), (2, .inl (.int fi)), (3, .inl (.int se)), (4, .inl (.int da)), (5, .inl (.int s)), (6, .inl (.int mi)), (7, .inr (17, some 0))]) (st' := [.inl (.long ((v9).toInt64)), .inl (.int 0), .inr (17, some 0)]) ⟨dL_trip_16, trivial⟩ rfl rfl ?_
    refine wx_last dL_trip_17 ?_
    refine wx_goto (tgt := 33) dL_trip_18 (by decide) ?_
    refine wp_run [(.iconst 0, 1)] (pc' := 34) (L' := [(0, .inr (9, some 0)), (1, .inl (.int mo)), (2, .inl (.int fi)), (3, .inl (.int se)), (4, .inl (.int da)), (5, .inl (.int s)), (6, .inl (.int mi)), (7, .inr (17, some 0))]) (st' := [.inl (.int 0)]) ⟨dL_trip_33, trivial⟩ rfl rfl ?_
    exact wx_iret rfl rfl dL_trip_34 (by rw [← e1]; exact ⟨rfl, rfl⟩)
  · obtain ⟨_, e1, rfl⟩ := e9
    have hm := (sh_trip h mo fi se da s mi).x e1
    simp only [List.mem_cons, List.not_mem_nil, or_false] at hm
    rcases hm with rfl | rfl | rfl
    · refine wx_catch rfl [] ⟨0, 18, 21, 21⟩ [⟨0, 18, 25, 13⟩, ⟨0, 18, 29, 15⟩] rfl (fun z hz => by cases hz) (by decide) (by decide) exl_3 exc_3 (fun q9 => ?_)
      refine wx_astoreY (by decide) dL_trip_21 ?_ (by intro p hp; simp only [List.mem_cons, List.not_mem_nil, or_false] at hp; rcases hp with rfl | rfl | rfl | rfl | rfl | rfl | rfl | rfl <;> exact ⟨by dsimp only; decide, fun q => absurd (show (1 : Nat) = 2 from q.2) (by decide)⟩)
      refine wp_run [(.iconst 1, 1)] (pc' := 24) (L' := [(0, .inr (9, some 0)), (1, .inl (.int mo)), (2, .inl (.int fi)), (3, .inl (.int se)), (4, .inl (.int da)), (5, .inl (.int s)), (6, .inl (.int mi)), (7, .inr (17, some 0))]) (st' := [.inl (.int 1)]) ⟨dL_trip_23, trivial⟩ rfl rfl ?_
      exact wx_iret rfl rfl dL_trip_24 (by rw [← e1]; exact ⟨by rw [show cdR [cy_e3, cy_e1, cy_e2] (.inr cy_e3) = 1 by decide +kernel], rfl⟩)
    · refine wx_catch rfl [⟨0, 18, 21, 21⟩] ⟨0, 18, 25, 13⟩ [⟨0, 18, 29, 15⟩] rfl (fun z hz => by
        simp only [List.mem_cons, List.not_mem_nil, or_false] at hz
        obtain rfl := hz
        exact .inr ⟨by decide, cy_e3, exl_3, by decide +kernel⟩) (by decide) (by decide) exl_1 exc_1 (fun q9 => ?_)
      refine wx_astoreY (by decide) dL_trip_25 ?_ (by intro p hp; simp only [List.mem_cons, List.not_mem_nil, or_false] at hp; rcases hp with rfl | rfl | rfl | rfl | rfl | rfl | rfl | rfl <;> exact ⟨by dsimp only; decide, fun q => absurd (show (1 : Nat) = 2 from q.2) (by decide)⟩)
      refine wp_run [(.iconst 2, 1)] (pc' := 28) (L' := [(0, .inr (9, some 0)), (1, .inl (.int mo)), (2, .inl (.int fi)), (3, .inl (.int se)), (4, .inl (.int da)), (5, .inl (.int s)), (6, .inl (.int mi)), (7, .inr (17, some 0))]) (st' := [.inl (.int 2)]) ⟨dL_trip_27, trivial⟩ rfl rfl ?_
      exact wx_iret rfl rfl dL_trip_28 (by rw [← e1]; exact ⟨by rw [show cdR [cy_e3, cy_e1, cy_e2] (.inr cy_e1) = 2 by decide +kernel], rfl⟩)
    · refine wx_catch rfl [⟨0, 18, 21, 21⟩, ⟨0, 18, 25, 13⟩] ⟨0, 18, 29, 15⟩ [] rfl (fun z hz => by
        simp only [List.mem_cons, List.not_mem_nil, or_false] at hz
        rcases hz with rfl | rfl
        · exact .inr ⟨by decide, cy_e3, exl_3, by decide +kernel⟩
        · exact .inr ⟨by decide, cy_e1, exl_1, by decide +kernel⟩) (by decide) (by decide) exl_2 exc_2 (fun q9 => ?_)
      refine wx_astoreY (by decide) dL_trip_29 ?_ (by intro p hp; simp only [List.mem_cons, List.not_mem_nil, or_false] at hp; rcases hp with rfl | rfl | rfl | rfl | rfl | rfl | rfl | rfl <;> exact ⟨by dsimp only; decide, fun q => absurd (show (1 : Nat) = 2 from q.2) (by decide)⟩)
      refine wp_run [(.iconst 3, 1)] (pc' := 32) (L' := [(0, .inr (9, some 0)), (1, .inl (.int mo)), (2, .inl (.int fi)), (3, .inl (.int se)), (4, .inl (.int da)), (5, .inl (.int s)), (6, .inl (.int mi)), (7, .inr (17, some 0))]) (st' := [.inl (.int 3)]) ⟨dL_trip_31, trivial⟩ rfl rfl ?_
      exact wx_iret rfl rfl dL_trip_32 (by rw [← e1]; exact ⟨by rw [show cdR [cy_e3, cy_e1, cy_e2] (.inr cy_e2) = 3 by decide +kernel], rfl⟩)
set_option maxRecDepth 20000 in
theorem c_L_calls {g : GT} {d : Nat} (hd : 9 ≤ d) {h : Hp} (W : CW h) (t : Int32) (s : Int32) (ri : Int32) (wa : Int32)  : Ctr g M_L_calls d 5 30 [.inr (9, some 0), .inl (.int t), .inl (.int s), .inl (.int ri), .inl (.int wa), .inr (17, some 0)] h (cy_det (.inl (some (.inl (.int (cdR [cy_e3, cy_e1, cy_e2] (F_X8_calls h t s ri wa).1))))) (loI (F_X8_calls h t s ri wa).1 ((F_X8_calls h t s ri wa).2))) := by
  refine cy_body rfl rfl (by decide) (Nat.le_of_ble_eq_true rfl) ?_
  refine wp_run [(.aload 5, 2), (.iconst 0, 1), (.aload_n 0, 1), (.iload_n 1, 1), (.iload_n 2, 1), (.iload_n 3, 1), (.iload 4, 2)] (pc' := 9) (L' := [(0, .inr (9, some 0)), (1, .inl (.int t)), (2, .inl (.int s)), (3, .inl (.int ri)), (4, .inl (.int wa)), (5, .inr (17, some 0))]) (st' := [.inl (.int wa), .inl (.int ri), .inl (.int s), .inl (.int t), .inr (9, some 0), .inl (.int 0), .inr (17, some 0)]) ⟨dL_calls_0, dL_calls_2, dL_calls_3, dL_calls_4, dL_calls_5, dL_calls_6, dL_calls_7, trivial⟩ rfl rfl ?_
  refine wx_virtual (M := M_L_calls) (uc := 0) (us := 0) (s := 9) (i := 0) (As := [.inl (.int t), .inl (.int s), .inl (.int ri), .inl (.int wa)]) (rest := [.inl (.int 0), .inr (17, some 0)]) cls_9 rfl (ok_X8_calls _ _) ml_L_27 im_X8_calls se_X8_calls (by omega) (c_X8_calls (d := d - 1) (h := h) (by omega) W t s ri wa) rfl rfl (Nat.le_of_ble_eq_true rfl) dL_calls_9 (fun r9 h9 e9 => ?_) (fun E9 h9 e9 => ?_)
  · obtain ⟨_, e1, rfl⟩ := e9
    obtain ⟨v9, rfl⟩ := (sh_calls h t s ri wa).v e1
    refine wp_run [(.i2l, 1)] (pc' := 13) (L' := [(0, .inr (9, some 0)), (1, .inl (.int t)), (2, .inl (.int s)), (3, .inl (.int ri)), (4, .inl (.int wa)), (5, .inr (17, some 0))]) (st' := [.inl (.long ((v9).toInt64)), .inl (.int 0), .inr (17, some 0)]) ⟨dL_calls_12, trivial⟩ rfl rfl ?_
    refine wx_last dL_calls_13 ?_
    refine wx_goto (tgt := 29) dL_calls_14 (by decide) ?_
    refine wp_run [(.iconst 0, 1)] (pc' := 30) (L' := [(0, .inr (9, some 0)), (1, .inl (.int t)), (2, .inl (.int s)), (3, .inl (.int ri)), (4, .inl (.int wa)), (5, .inr (17, some 0))]) (st' := [.inl (.int 0)]) ⟨dL_calls_29, trivial⟩ rfl rfl ?_
    exact wx_iret rfl rfl dL_calls_30 (by rw [← e1]; exact ⟨rfl, rfl⟩)
  · obtain ⟨_, e1, rfl⟩ := e9
    have hm := (sh_calls h t s ri wa).x e1
    simp only [List.mem_cons, List.not_mem_nil, or_false] at hm
    rcases hm with rfl | rfl | rfl
    · refine wx_catch rfl [] ⟨0, 14, 17, 21⟩ [⟨0, 14, 21, 13⟩, ⟨0, 14, 25, 15⟩] rfl (fun z hz => by cases hz) (by decide) (by decide) exl_3 exc_3 (fun q9 => ?_)
      refine wx_astoreY (by decide) dL_calls_17 ?_ (by intro p hp; simp only [List.mem_cons, List.not_mem_nil, or_false] at hp; rcases hp with rfl | rfl | rfl | rfl | rfl | rfl <;> exact ⟨by dsimp only; decide, fun q => absurd (show (1 : Nat) = 2 from q.2) (by decide)⟩)
      refine wp_run [(.iconst 1, 1)] (pc' := 20) (L' := [(0, .inr (9, some 0)), (1, .inl (.int t)), (2, .inl (.int s)), (3, .inl (.int ri)), (4, .inl (.int wa)), (5, .inr (17, some 0))]) (st' := [.inl (.int 1)]) ⟨dL_calls_19, trivial⟩ rfl rfl ?_
      exact wx_iret rfl rfl dL_calls_20 (by rw [← e1]; exact ⟨by rw [show cdR [cy_e3, cy_e1, cy_e2] (.inr cy_e3) = 1 by decide +kernel], rfl⟩)
    · refine wx_catch rfl [⟨0, 14, 17, 21⟩] ⟨0, 14, 21, 13⟩ [⟨0, 14, 25, 15⟩] rfl (fun z hz => by
        simp only [List.mem_cons, List.not_mem_nil, or_false] at hz
        obtain rfl := hz
        exact .inr ⟨by decide, cy_e3, exl_3, by decide +kernel⟩) (by decide) (by decide) exl_1 exc_1 (fun q9 => ?_)
      refine wx_astoreY (by decide) dL_calls_21 ?_ (by intro p hp; simp only [List.mem_cons, List.not_mem_nil, or_false] at hp; rcases hp with rfl | rfl | rfl | rfl | rfl | rfl <;> exact ⟨by dsimp only; decide, fun q => absurd (show (1 : Nat) = 2 from q.2) (by decide)⟩)
      refine wp_run [(.iconst 2, 1)] (pc' := 24) (L' := [(0, .inr (9, some 0)), (1, .inl (.int t)), (2, .inl (.int s)), (3, .inl (.int ri)), (4, .inl (.int wa)), (5, .inr (17, some 0))]) (st' := [.inl (.int 2)]) ⟨dL_calls_23, trivial⟩ rfl rfl ?_
      exact wx_iret rfl rfl dL_calls_24 (by rw [← e1]; exact ⟨by rw [show cdR [cy_e3, cy_e1, cy_e2] (.inr cy_e1) = 2 by decide +kernel], rfl⟩)
    · refine wx_catch rfl [⟨0, 14, 17, 21⟩, ⟨0, 14, 21, 13⟩] ⟨0, 14, 25, 15⟩ [] rfl (fun z hz => by
        simp only [List.mem_cons, List.not_mem_nil, or_false] at hz
        rcases hz with rfl | rfl
        · exact .inr ⟨by decide, cy_e3, exl_3, by decide +kernel⟩
        · exact .inr ⟨by decide, cy_e1, exl_1, by decide +kernel⟩) (by decide) (by decide) exl_2 exc_2 (fun q9 => ?_)
      refine wx_astoreY (by decide) dL_calls_25 ?_ (by intro p hp; simp only [List.mem_cons, List.not_mem_nil, or_false] at hp; rcases hp with rfl | rfl | rfl | rfl | rfl | rfl <;> exact ⟨by dsimp only; decide, fun q => absurd (show (1 : Nat) = 2 from q.2) (by decide)⟩)
      refine wp_run [(.iconst 3, 1)] (pc' := 28) (L' := [(0, .inr (9, some 0)), (1, .inl (.int t)), (2, .inl (.int s)), (3, .inl (.int ri)), (4, .inl (.int wa)), (5, .inr (17, some 0))]) (st' := [.inl (.int 3)]) ⟨dL_calls_27, trivial⟩ rfl rfl ?_
      exact wx_iret rfl rfl dL_calls_28 (by rw [← e1]; exact ⟨by rw [show cdR [cy_e3, cy_e1, cy_e2] (.inr cy_e2) = 3 by decide +kernel], rfl⟩)
set_option maxRecDepth 20000 in
theorem c_L_runs {g : GT} {d : Nat} (hd : 9 ≤ d) {h : Hp} (W : CW h) (t : Int32) (dy : Int32) (v : Int32) (hv : narrow .boolean (.int v) = .int v)  : Ctr g M_L_runs d 2 12 [.inr (9, some 0), .inl (.int t), .inl (.int dy), .inl (.int v), .inr (17, some 0)] h (cy_det (.inl (some (.inl (.int (cdR [cy_e3, cy_e1] (F_X8_runs h t dy v).1))))) (loB (F_X8_runs h t dy v).1 ((F_X8_runs h t dy v).2))) := by
  refine cy_body rfl rfl (by decide) (Nat.le_of_ble_eq_true rfl) ?_
  refine wp_run [(.aload 4, 2), (.iconst 0, 1), (.aload_n 0, 1), (.iload_n 1, 1), (.iload_n 2, 1), (.iload_n 3, 1)] (pc' := 7) (L' := [(0, .inr (9, some 0)), (1, .inl (.int t)), (2, .inl (.int dy)), (3, .inl (.int v)), (4, .inr (17, some 0))]) (st' := [.inl (.int v), .inl (.int dy), .inl (.int t), .inr (9, some 0), .inl (.int 0), .inr (17, some 0)]) ⟨dL_runs_0, dL_runs_2, dL_runs_3, dL_runs_4, dL_runs_5, dL_runs_6, trivial⟩ rfl rfl ?_
  refine wx_virtual (M := M_L_runs) (uc := 0) (us := 0) (s := 9) (i := 0) (As := [.inl (.int t), .inl (.int dy), .inl (.int v)]) (rest := [.inl (.int 0), .inr (17, some 0)]) cls_9 rfl (ok_X8_runs _ _) ml_L_31 im_X8_runs se_X8_runs (by omega) (c_X8_runs (d := d - 1) (h := h) (by omega) W t dy v hv) rfl rfl (Nat.le_of_ble_eq_true rfl) dL_runs_7 (fun r9 h9 e9 => ?_) (fun E9 h9 e9 => ?_)
  · obtain ⟨_, e1, rfl⟩ := e9
    obtain ⟨v9, rfl⟩ := (sh_runs h t dy v).v e1
    refine wx_if_eq (tgt := 17) dL_runs_10 (by decide) (fun h_1 => ?_) (fun h_1 => ?_)
    · refine wp_run [(.lconst 0, 1)] (pc' := 18) (L' := [(0, .inr (9, some 0)), (1, .inl (.int t)), (2, .inl (.int dy)), (3, .inl (.int v)), (4, .inr (17, some 0))]) (st' := [.inl (.long 0), .inl (.int 0), .inr (17, some 0)]) ⟨dL_runs_17, trivial⟩ rfl rfl ?_
      refine wx_last dL_runs_18 ?_
      refine wx_goto (tgt := 30) dL_runs_19 (by decide) ?_
      refine wp_run [(.iconst 0, 1)] (pc' := 31) (L' := [(0, .inr (9, some 0)), (1, .inl (.int t)), (2, .inl (.int dy)), (3, .inl (.int v)), (4, .inr (17, some 0))]) (st' := [.inl (.int 0)]) ⟨dL_runs_30, trivial⟩ rfl rfl ?_
      exact wx_iret rfl rfl dL_runs_31 (by rw [← e1]; exact ⟨rfl, by show _ = sAL _ (if _ then _ else _); rw [if_pos h_1]⟩)
    · refine wp_run [(.lconst 1, 1)] (pc' := 14) (L' := [(0, .inr (9, some 0)), (1, .inl (.int t)), (2, .inl (.int dy)), (3, .inl (.int v)), (4, .inr (17, some 0))]) (st' := [.inl (.long 1), .inl (.int 0), .inr (17, some 0)]) ⟨dL_runs_13, trivial⟩ rfl rfl ?_
      refine wx_goto (tgt := 18) dL_runs_14 (by decide) ?_
      refine wx_last dL_runs_18 ?_
      refine wx_goto (tgt := 30) dL_runs_19 (by decide) ?_
      refine wp_run [(.iconst 0, 1)] (pc' := 31) (L' := [(0, .inr (9, some 0)), (1, .inl (.int t)), (2, .inl (.int dy)), (3, .inl (.int v)), (4, .inr (17, some 0))]) (st' := [.inl (.int 0)]) ⟨dL_runs_30, trivial⟩ rfl rfl ?_
      exact wx_iret rfl rfl dL_runs_31 (by rw [← e1]; exact ⟨rfl, by show _ = sAL _ (if _ then _ else _); rw [if_neg h_1]⟩)
  · obtain ⟨_, e1, rfl⟩ := e9
    have hm := (sh_runs h t dy v).x e1
    simp only [List.mem_cons, List.not_mem_nil, or_false] at hm
    rcases hm with rfl | rfl
    · refine wx_catch rfl [] ⟨0, 19, 22, 21⟩ [⟨0, 19, 26, 13⟩] rfl (fun z hz => by cases hz) (by decide) (by decide) exl_3 exc_3 (fun q9 => ?_)
      refine wx_astoreY (by decide) dL_runs_22 ?_ (by intro p hp; simp only [List.mem_cons, List.not_mem_nil, or_false] at hp; rcases hp with rfl | rfl | rfl | rfl | rfl <;> exact ⟨by dsimp only; decide, fun q => absurd (show (1 : Nat) = 2 from q.2) (by decide)⟩)
      refine wp_run [(.iconst 1, 1)] (pc' := 25) (L' := [(0, .inr (9, some 0)), (1, .inl (.int t)), (2, .inl (.int dy)), (3, .inl (.int v)), (4, .inr (17, some 0))]) (st' := [.inl (.int 1)]) ⟨dL_runs_24, trivial⟩ rfl rfl ?_
      exact wx_iret rfl rfl dL_runs_25 (by rw [← e1]; exact ⟨by rw [show cdR [cy_e3, cy_e1] (.inr cy_e3) = 1 by decide +kernel], rfl⟩)
    · refine wx_catch rfl [⟨0, 19, 22, 21⟩] ⟨0, 19, 26, 13⟩ [] rfl (fun z hz => by
        simp only [List.mem_cons, List.not_mem_nil, or_false] at hz
        obtain rfl := hz
        exact .inr ⟨by decide, cy_e3, exl_3, by decide +kernel⟩) (by decide) (by decide) exl_1 exc_1 (fun q9 => ?_)
      refine wx_astoreY (by decide) dL_runs_26 ?_ (by intro p hp; simp only [List.mem_cons, List.not_mem_nil, or_false] at hp; rcases hp with rfl | rfl | rfl | rfl | rfl <;> exact ⟨by dsimp only; decide, fun q => absurd (show (1 : Nat) = 2 from q.2) (by decide)⟩)
      refine wp_run [(.iconst 2, 1)] (pc' := 29) (L' := [(0, .inr (9, some 0)), (1, .inl (.int t)), (2, .inl (.int dy)), (3, .inl (.int v)), (4, .inr (17, some 0))]) (st' := [.inl (.int 2)]) ⟨dL_runs_28, trivial⟩ rfl rfl ?_
      exact wx_iret rfl rfl dL_runs_29 (by rw [← e1]; exact ⟨by rw [show cdR [cy_e3, cy_e1] (.inr cy_e1) = 2 by decide +kernel], rfl⟩)
set_option maxRecDepth 20000 in
theorem c_L_delay {g : GT} {d : Nat} (hd : 9 ≤ d) {h : Hp} (W : CW h) (t : Int32) (dy : Int32) (mi : Int32)  : Ctr g M_L_delay d 3 18 [.inr (9, some 0), .inl (.int t), .inl (.int dy), .inl (.int mi), .inr (17, some 0)] h (cy_det (.inl (some (.inl (.int (cdR [cy_e3, cy_e1] (F_X8_delay h t dy mi).1))))) (loI (F_X8_delay h t dy mi).1 ((F_X8_delay h t dy mi).2))) := by
  refine cy_body rfl rfl (by decide) (Nat.le_of_ble_eq_true rfl) ?_
  refine wp_run [(.aload 4, 2), (.iconst 0, 1), (.aload_n 0, 1), (.iload_n 1, 1), (.iload_n 2, 1), (.iload_n 3, 1)] (pc' := 7) (L' := [(0, .inr (9, some 0)), (1, .inl (.int t)), (2, .inl (.int dy)), (3, .inl (.int mi)), (4, .inr (17, some 0))]) (st' := [.inl (.int mi), .inl (.int dy), .inl (.int t), .inr (9, some 0), .inl (.int 0), .inr (17, some 0)]) ⟨dL_delay_0, dL_delay_2, dL_delay_3, dL_delay_4, dL_delay_5, dL_delay_6, trivial⟩ rfl rfl ?_
  refine wx_virtual (M := M_L_delay) (uc := 0) (us := 0) (s := 9) (i := 0) (As := [.inl (.int t), .inl (.int dy), .inl (.int mi)]) (rest := [.inl (.int 0), .inr (17, some 0)]) cls_9 rfl (ok_X8_delay _ _) ml_L_35 im_X8_delay se_X8_delay (by omega) (c_X8_delay (d := d - 1) (h := h) (by omega) W t dy mi) rfl rfl (Nat.le_of_ble_eq_true rfl) dL_delay_7 (fun r9 h9 e9 => ?_) (fun E9 h9 e9 => ?_)
  · obtain ⟨_, e1, rfl⟩ := e9
    obtain ⟨v9, rfl⟩ := (sh_delay h t dy mi).v e1
    refine wp_run [(.i2l, 1)] (pc' := 11) (L' := [(0, .inr (9, some 0)), (1, .inl (.int t)), (2, .inl (.int dy)), (3, .inl (.int mi)), (4, .inr (17, some 0))]) (st' := [.inl (.long ((v9).toInt64)), .inl (.int 0), .inr (17, some 0)]) ⟨dL_delay_10, trivial⟩ rfl rfl ?_
    refine wx_last dL_delay_11 ?_
    refine wx_goto (tgt := 23) dL_delay_12 (by decide) ?_
    refine wp_run [(.iconst 0, 1)] (pc' := 24) (L' := [(0, .inr (9, some 0)), (1, .inl (.int t)), (2, .inl (.int dy)), (3, .inl (.int mi)), (4, .inr (17, some 0))]) (st' := [.inl (.int 0)]) ⟨dL_delay_23, trivial⟩ rfl rfl ?_
    exact wx_iret rfl rfl dL_delay_24 (by rw [← e1]; exact ⟨rfl, rfl⟩)
  · obtain ⟨_, e1, rfl⟩ := e9
    have hm := (sh_delay h t dy mi).x e1
    simp only [List.mem_cons, List.not_mem_nil, or_false] at hm
    rcases hm with rfl | rfl
    · refine wx_catch rfl [] ⟨0, 12, 15, 21⟩ [⟨0, 12, 19, 13⟩] rfl (fun z hz => by cases hz) (by decide) (by decide) exl_3 exc_3 (fun q9 => ?_)
      refine wx_astoreY (by decide) dL_delay_15 ?_ (by intro p hp; simp only [List.mem_cons, List.not_mem_nil, or_false] at hp; rcases hp with rfl | rfl | rfl | rfl | rfl <;> exact ⟨by dsimp only; decide, fun q => absurd (show (1 : Nat) = 2 from q.2) (by decide)⟩)
      refine wp_run [(.iconst 1, 1)] (pc' := 18) (L' := [(0, .inr (9, some 0)), (1, .inl (.int t)), (2, .inl (.int dy)), (3, .inl (.int mi)), (4, .inr (17, some 0))]) (st' := [.inl (.int 1)]) ⟨dL_delay_17, trivial⟩ rfl rfl ?_
      exact wx_iret rfl rfl dL_delay_18 (by rw [← e1]; exact ⟨by rw [show cdR [cy_e3, cy_e1] (.inr cy_e3) = 1 by decide +kernel], rfl⟩)
    · refine wx_catch rfl [⟨0, 12, 15, 21⟩] ⟨0, 12, 19, 13⟩ [] rfl (fun z hz => by
        simp only [List.mem_cons, List.not_mem_nil, or_false] at hz
        obtain rfl := hz
        exact .inr ⟨by decide, cy_e3, exl_3, by decide +kernel⟩) (by decide) (by decide) exl_1 exc_1 (fun q9 => ?_)
      refine wx_astoreY (by decide) dL_delay_19 ?_ (by intro p hp; simp only [List.mem_cons, List.not_mem_nil, or_false] at hp; rcases hp with rfl | rfl | rfl | rfl | rfl <;> exact ⟨by dsimp only; decide, fun q => absurd (show (1 : Nat) = 2 from q.2) (by decide)⟩)
      refine wp_run [(.iconst 2, 1)] (pc' := 22) (L' := [(0, .inr (9, some 0)), (1, .inl (.int t)), (2, .inl (.int dy)), (3, .inl (.int mi)), (4, .inr (17, some 0))]) (st' := [.inl (.int 2)]) ⟨dL_delay_21, trivial⟩ rfl rfl ?_
      exact wx_iret rfl rfl dL_delay_22 (by rw [← e1]; exact ⟨by rw [show cdR [cy_e3, cy_e1] (.inr cy_e1) = 2 by decide +kernel], rfl⟩)
