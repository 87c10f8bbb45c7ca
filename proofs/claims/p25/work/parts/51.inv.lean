/-! ===== own: what holds of an object's heap at every call ===== -/
/-- a way on foot -/
def W2 (c : Int32) : Prop := c = -1 ∨ ∃ w : Nat, c = nI w ∧ 1 ≤ w ∧ w ≤ 120
/-- trip t, stops below n: its row -/
def TRow (h : Hp) (n t len : Nat) (st lv ar : Nat → Nat) : Prop :=
  1 ≤ len ∧ len ≤ 6 ∧ xFI h 810 t = nI len ∧
  ∀ p, p < len → xAI h 28 t p = nI (st p) ∧ st p < n ∧ xAI h 30 t p = nI (lv p) ∧ lv p ≤ 1440 + 360 * p ∧ (p ≠ 0 → xAI h 29 t p = nI (ar p) ∧ lv (p - 1) < ar p ∧ ar p ≤ lv p)
def TDay (h : Hp) (t d : Nat) : Prop := -1 ≤ (xAI h 32 t d).toInt ∧ (xAI h 32 t d).toInt ≤ 600
def TNot (h : Hp) (t : Nat) : Prop := ∃ c : Nat, c ≤ 30 ∧ xFI h 811 t = nI c
def TR (h : Hp) (n t : Nat) : Prop :=
  xFI h 800 t = nI t ∧ (∃ k : Nat, k < 3 ∧ xFI h 802 t = nI k) ∧ (∃ k : Nat, 1 ≤ k ∧ k ≤ 100 ∧ xFI h 803 t = nI k) ∧ (∃ len st lv ar, TRow h n t len st lv ar) ∧ (∀ d, d < 100 → TDay h t d) ∧ TNot h t
def PR (h : Hp) : Prop := ∀ f, f < 3 → ∃ a b c : Nat, a ≤ 10000 ∧ b ≤ 1000 ∧ c ≤ 10000 ∧ xAI h 24 0 f = nI a ∧ xAI h 25 0 f = nI b ∧ xAI h 26 0 f = nI c
def RStop (h : Hp) (n : Nat) : Prop := n ≤ 10 ∧ xFI h 403 0 = nI n ∧ ∀ s, s < n → ∃ w : Nat, w ≤ 60 ∧ xAI h 22 0 s = nI w
def RWalk (h : Hp) : Prop := ∀ a b, a < 10 → b < 10 → W2 (xAI h 23 0 (10 * a + b))
/-- how many of the first k bookings hold a seat of the run -/
def cnt (h : Hp) (t : Nat) (dy : Int32) : Nat → Nat
  | 0 => 0
  | k + 1 => cnt h t dy k + (if xFI h 103 k = 2 then 0 else if F_X2_goesBy h (bj h k) (rls h (bj h k)) t dy = 0 then 0 else 1)
def RC (h : Hp) : Prop :=
  (∃ n, RStop h n ∧ ∀ t, t < xLS h 11 → TR h n t) ∧ RWalk h ∧ PR h ∧ (∀ b, b < xLS h 12 → 0 ≤ (xFI h 101 b).toInt)
