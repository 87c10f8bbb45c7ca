/-! ===== own: the class's part and the reference's part of one heap tell the same ===== -/
/-- a way on foot: the class's number, the reference's -/
def W2 (c m : Int32) : Prop := (c = -1 ∧ m = 0) ∨ ∃ w : Nat, c = nI w ∧ m = nI w ∧ 1 ≤ w ∧ w ≤ 120
/-- trip t, stops below n: its row -/
def TRow (h : Hp) (n t len : Nat) (st lv ar : Nat → Nat) : Prop :=
  1 ≤ len ∧ len ≤ 6 ∧ xFI h 810 t = nI len ∧ xAI h 46 0 t = nI len ∧
  ∀ p, p < len → xAI h 28 t p = nI (st p) ∧ xAI h 47 0 (6 * t + p) = nI (st p) ∧ st p < n ∧ xAI h 30 t p = nI (lv p) ∧ xAI h 49 0 (6 * t + p) = nI (lv p) ∧ lv p ≤ 1440 + 360 * p ∧
    (p ≠ 0 → xAI h 29 t p = nI (ar p) ∧ xAI h 48 0 (6 * t + p) = nI (ar p) ∧ lv (p - 1) < ar p ∧ ar p ≤ lv p)
def TDay (h : Hp) (t d : Nat) : Prop := xAI h 31 t d = F_X9_isRun h (nI t) (nI d) ∧ xAI h 32 t d = xAI h 51 0 (100 * t + d) ∧ -1 ≤ (xAI h 32 t d).toInt ∧ (xAI h 32 t d).toInt ≤ 600
def TNot (h : Hp) (t : Nat) : Prop := ∃ c : Nat, c ≤ 30 ∧ xFI h 811 t = nI c ∧ xAI h 52 0 t = nI c ∧ ∀ i, i < c → xAI h 33 t i = xAI h 53 0 (30 * t + i)
def TR (h : Hp) (n t : Nat) : Prop :=
  xFI h 800 t = nI t ∧ (∃ k : Nat, k < 3 ∧ xFI h 801 t = nI k ∧ xAI h 42 0 t = nI k) ∧ (∃ k : Nat, k < 3 ∧ xFI h 802 t = nI k ∧ xAI h 43 0 t = nI k) ∧ xFI h 803 t = xAI h 44 0 t ∧
  (∃ len st lv ar, TRow h n t len st lv ar) ∧ (∀ d, d < 100 → TDay h t d) ∧ TNot h t
/-- no trip yet -/
def TN (h : Hp) (t : Nat) : Prop := (∀ d, d < 100 → xAI h 50 0 (100 * t + d) = 0 ∧ xAI h 51 0 (100 * t + d) = 0) ∧ xAI h 52 0 t = 0
/-- ride r of booking b, its k-th -/
def BRide (h : Hp) (b k r : Nat) : Prop :=
  xAI h 71 0 (4 * b + k) = nI (tr h r) ∧ ∃ d bo le : Nat, d < 100 ∧ bo < le ∧ le < 6 ∧ xFI h 810 (tr h r) ≠ 0 ∧ ¬ xFI h 810 (tr h r) ≤ nI le ∧
    xFI h 501 r = nI d ∧ xAI h 72 0 (4 * b + k) = nI d ∧ xFI h 502 r = nI bo ∧ xAI h 73 0 (4 * b + k) = nI bo ∧ xFI h 503 r = nI le ∧ xAI h 74 0 (4 * b + k) = nI le ∧ xFI h 505 r = xAI h 75 0 (5 * b + k)
def BR (h : Hp) (b : Nat) : Prop :=
  xFI h 103 b = xAI h 65 0 b ∧ xFI h 101 b = xAI h 66 0 b ∧ xFI h 102 b = xAI h 68 0 b ∧ 1 ≤ (rls h (bj h b)).length ∧ (rls h (bj h b)).length ≤ 4 ∧
  xFI h 302 (bj h b) = nI (rls h (bj h b)).length ∧ xAI h 67 0 b = nI (rls h (bj h b)).length ∧ xFI h 300 (bj h b) = xAI h 69 0 b ∧ xFI h 304 (bj h b) = xAI h 70 0 b ∧
  xFI h 303 (bj h b) = xAI h 75 0 (5 * b + (rls h (bj h b)).length) ∧ ∀ k r, (rls h (bj h b))[k]? = some r → BRide h b k r
def PR (h : Hp) : Prop := ∀ f, f < 3 → ∃ a b c : Nat, a ≤ 10000 ∧ b ≤ 1000 ∧ c ≤ 10000 ∧ xAI h 24 0 f = nI a ∧ xAI h 54 0 f = nI a ∧ xAI h 25 0 f = nI b ∧ xAI h 55 0 f = nI b ∧ xAI h 26 0 f = nI c ∧ xAI h 56 0 f = nI c
def RStop (h : Hp) (n : Nat) : Prop := n ≤ 10 ∧ xFI h 403 0 = nI n ∧ xFI h 1000 0 = nI n ∧ ∀ s, s < n → ∃ w : Nat, w ≤ 60 ∧ xAI h 22 0 s = nI w ∧ xAI h 40 0 s = nI w
def RWalk (h : Hp) : Prop := (∀ a b, a < 10 → b < 10 → W2 (xAI h 23 0 (10 * a + b)) (xAI h 41 0 (10 * a + b))) ∧ ∀ a, a < 10 → xAI h 41 0 (10 * a + a) = 0
def RC (h : Hp) : Prop :=
  (∃ n, RStop h n ∧ ∀ t, t < xLS h 11 → TR h n t) ∧ RWalk h ∧ xFI h 1003 0 = nI (xLS h 11) ∧ (∀ t, xLS h 11 ≤ t → t < 20 → TN h t) ∧ PR h ∧ xFI h 905 0 = xFI h 1030 0 ∧
  xFI h 1031 0 = nI (xLS h 12) ∧ (∀ b, b < xLS h 12 → BR h b) ∧ xAI h 15 0 0 = 14 ∧ xAI h 15 0 1 = 30 ∧ xAI h 15 0 2 = 120
/-- the script: S, of n numbers -/
def SCR (S : Nat → Int32) (n : Nat) (h : Hp) : Prop := (∀ j, xAI h 16 0 j = S j) ∧ xLS h 16 = n
def Inv (S : Nat → Int32) (n : Nat) (h : Hp) : Prop := CW h ∧ CN h ∧ MW h ∧ DM h ∧ SCR S n h ∧ RC h
/-- what a call of the class leaves for the reference's -/
def Mid (S : Nat → Int32) (n : Nat) (h : Hp) : Prop := MW h ∧ DM h ∧ SCR S n h
/-- class and reference agree on a call: r the class's answer, h1 the heap behind it, mh the reference's -/
def AG (S : Nat → Int32) (n : Nat) (l : List String) (r : Rs) (h1 mh : Hp) (V : Prop) : Prop := Mid S n h1 ∧ (SR h1 mh ∧ DM mh → Inv S n mh) ∧ xFI mh 1043 0 = cdR l r ∧ (cdR l r = 0 → V)
theorem Inv.W {S : Nat → Int32} {n : Nat} {h : Hp} (I : Inv S n h) : CW h := I.1
theorem Inv.C {S : Nat → Int32} {n : Nat} {h : Hp} (I : Inv S n h) : CN h := I.2.1
theorem Inv.MW {S : Nat → Int32} {n : Nat} {h : Hp} (I : Inv S n h) : MW h := I.2.2.1
theorem Inv.D {S : Nat → Int32} {n : Nat} {h : Hp} (I : Inv S n h) : DM h := I.2.2.2.1
theorem Inv.S {S : Nat → Int32} {n : Nat} {h : Hp} (I : Inv S n h) : SCR S n h := I.2.2.2.2.1
theorem Inv.R {S : Nat → Int32} {n : Nat} {h : Hp} (I : Inv S n h) : RC h := I.2.2.2.2.2
