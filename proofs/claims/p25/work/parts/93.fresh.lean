/-! ===== own: a fresh object ===== -/
def Fr (S : Nat → Int32) (n : Nat) (h : Hp) : Prop :=
  (∀ k i, xFI h k i = 0) ∧ (∀ s j, s ≠ 15 → s ≠ 16 → s ≠ 23 → xAI h s 0 j = 0) ∧ (∀ j, xAI h 16 0 j = S j) ∧ (xAI h 15 0 0 = 14 ∧ xAI h 15 0 1 = 30 ∧ xAI h 15 0 2 = 120) ∧ (xLS h 11 = 0 ∧ xLS h 12 = 0 ∧ xLS h 16 = n) ∧
  0 < xCN h 15 ∧ xCN h 1 = 0 ∧ xCN h 8 = 0 ∧ ∀ s, 28 ≤ s → s ≤ 33 → xCN h s = 0
section FRESH
variable {S : Nat → Int32} {n : Nat} {h : Hp}
theorem up1_nw {f : Nat → Nat} {a v s : Nat} (q : s ≠ a) : up1 f a v s = f s := if_neg q
theorem cn_up {h : Hp} {a v : Nat} (ha : a ≠ 15 ∧ a ≠ 1 ∧ a ≠ 8 ∧ ¬ (28 ≤ a ∧ a ≤ 33)) (z : 0 < xCN h 15 ∧ xCN h 1 = 0 ∧ xCN h 8 = 0 ∧ ∀ s, 28 ≤ s → s ≤ 33 → xCN h s = 0) : 0 < up1 (xCN h) a v 15 ∧ up1 (xCN h) a v 1 = 0 ∧ up1 (xCN h) a v 8 = 0 ∧ ∀ s, 28 ≤ s → s ≤ 33 → up1 (xCN h) a v s = 0 := by
  obtain ⟨a1, a2, a3, a4⟩ := ha
  obtain ⟨z1, z2, z3, z4⟩ := z
  refine ⟨?_, ?_, ?_, fun s h1 h2 => ?_⟩
  · rw [up1_nw (Ne.symm a1)]; exact z1
  · rw [up1_nw (Ne.symm a2)]; exact z2
  · rw [up1_nw (Ne.symm a3)]; exact z3
  · rw [up1_nw (by omega)]; exact z4 s h1 h2
theorem Fr.fi (k i : Nat) (z : Fr S n h) : Fr S n (sFI h k i 0) := by
  refine ⟨fun k' i' => ?_, z.2⟩
  show (if k' = k ∧ i' = i then (0 : Int32) else xFI h k' i') = 0
  by_cases q : k' = k ∧ i' = i
  · rw [if_pos q]
  · rw [if_neg q]; exact z.1 k' i'
theorem Fr.no {a : Nat} (ha : a ≠ 15 ∧ a ≠ 1 ∧ a ≠ 8 ∧ ¬ (28 ≤ a ∧ a ≤ 33)) (z : Fr S n h) : Fr S n (sNO h a) := by
  refine ⟨fun k i => ?_, z.2.1, z.2.2.1, z.2.2.2.1, z.2.2.2.2.1, cn_up ha z.2.2.2.2.2⟩
  show (if k / 100 = a ∧ i = xCN h a then (0 : Int32) else xFI h k i) = 0
  by_cases q : k / 100 = a ∧ i = xCN h a
  · rw [if_pos q]
  · rw [if_neg q]; exact z.1 k i
theorem Fr.na {a : Nat} (ha : (a ≠ 15 ∧ a ≠ 1 ∧ a ≠ 8 ∧ ¬ (28 ≤ a ∧ a ≤ 33)) ∧ a ≠ 16) (z : Fr S n h) : Fr S n (sNA h a) := by
  have k : ∀ s j, s ≠ a → xAI (sNA h a) s 0 j = xAI h s 0 j := fun s j q => if_neg (fun w => q w.1)
  refine ⟨z.1, fun s j h1 h2 h3 => ?_, fun j => by rw [k 16 j (Ne.symm ha.2)]; exact z.2.2.1 j, by rw [k 15 0 (Ne.symm ha.1.1), k 15 1 (Ne.symm ha.1.1), k 15 2 (Ne.symm ha.1.1)]; exact z.2.2.2.1, z.2.2.2.2.1, cn_up ha.1 z.2.2.2.2.2⟩
  show (if s = a ∧ 0 = xCN h a then (0 : Int32) else xAI h s 0 j) = 0
  by_cases q : s = a ∧ 0 = xCN h a
  · rw [if_pos q]
  · rw [if_neg q]; exact z.2.1 s j h1 h2 h3
theorem Fr.nl {a : Nat} (ha : (a ≠ 15 ∧ a ≠ 1 ∧ a ≠ 8 ∧ ¬ (28 ≤ a ∧ a ≤ 33)) ∧ a ≠ 16) (z : Fr S n h) : Fr S n (H_newL h a) := by
  have k : ∀ s, xLS (H_newL h a) s = if s = a then 0 else xLS h s := fun s => rfl
  have k0 : ∀ s, xLS h s = 0 → xLS (H_newL h a) s = 0 := fun s q => by
    rw [k]
    by_cases w : s = a
    · rw [if_pos w]
    · rw [if_neg w]; exact q
  refine ⟨fun k i => ?_, z.2.1, z.2.2.1, z.2.2.2.1, ⟨k0 11 z.2.2.2.2.1.1, k0 12 z.2.2.2.2.1.2.1, by rw [k, if_neg (Ne.symm ha.2)]; exact z.2.2.2.2.1.2.2⟩, cn_up ha.1 z.2.2.2.2.2⟩
  show (if k = 100 * a ∧ i = 0 then (0 : Int32) else xFI h k i) = 0
  by_cases q : k = 100 * a ∧ i = 0
  · rw [if_pos q]
  · rw [if_neg q]; exact z.1 k i
theorem Fr.fill (z : Fr S n h) : Fr S n (H_fill h 23 0 (-1)) := by
  have k : ∀ s j, s ≠ 23 → xAI (H_fill h 23 0 (-1)) s 0 j = xAI h s 0 j := fun s j q => if_neg (fun w => q w.1)
  exact ⟨z.1, fun s j h1 h2 h3 => by rw [k s j h3]; exact z.2.1 s j h1 h2 h3, fun j => by rw [k 16 j (by decide)]; exact z.2.2.1 j, by rw [k 15 0 (by decide), k 15 1 (by decide), k 15 2 (by decide)]; exact z.2.2.2.1, z.2.2.2.2.1, z.2.2.2.2.2⟩
theorem Fr.fr {k i : Nat} {v : Option Nat} (z : Fr S n h) : Fr S n (sFR h k i v) := z
def Q4 (h : Hp) : Prop := xCN h 16 = 0 ∧ xCN h 9 = 1
theorem Q4.no {a : Nat} (ha : a ≠ 16 ∧ a ≠ 9) (z : Q4 h) : Q4 (sNO h a) := ⟨(up1_nw (Ne.symm ha.1)).trans z.1, (up1_nw (Ne.symm ha.2)).trans z.2⟩
theorem Q4.na {a : Nat} (ha : a ≠ 16 ∧ a ≠ 9) (z : Q4 h) : Q4 (sNA h a) := ⟨(up1_nw (Ne.symm ha.1)).trans z.1, (up1_nw (Ne.symm ha.2)).trans z.2⟩
theorem Q4.nl {a : Nat} (ha : a ≠ 16 ∧ a ≠ 9) (z : Q4 h) : Q4 (H_newL h a) := ⟨(up1_nw (Ne.symm ha.1)).trans z.1, (up1_nw (Ne.symm ha.2)).trans z.2⟩
theorem Q4.fr {k i : Nat} {v : Option Nat} (z : Q4 h) : Q4 (sFR h k i v) := z
theorem Q4.fi {k i : Nat} {v : Int32} (z : Q4 h) : Q4 (sFI h k i v) := z
theorem Q4.fill {s i : Nat} {v : Int32} (z : Q4 h) : Q4 (H_fill h s i v) := z
def Q2 (h : Hp) : Prop := ∀ j, j < 100 → xAI h 23 0 j = -1
theorem Q2.na {a : Nat} (ha : a ≠ 23) (z : Q2 h) : Q2 (sNA h a) := fun j hj => (if_neg (fun w => ha w.1.symm)).trans (z j hj)
theorem Q2.fr {k i : Nat} {v : Option Nat} (z : Q2 h) : Q2 (sFR h k i v) := z
theorem Q2.fi {k i : Nat} {v : Int32} (z : Q2 h) : Q2 (sFI h k i v) := z
theorem Q2.no {a : Nat} (z : Q2 h) : Q2 (sNO h a) := z
theorem Q2.nl {a : Nat} (z : Q2 h) : Q2 (H_newL h a) := z
theorem Q2.fill (h : Hp) : Q2 (H_fill h 23 0 (-1)) := fun j hj => if_pos ⟨rfl, rfl, hj⟩
set_option maxRecDepth 20000 in
theorem F_X3_init_fr (z : Fr S n h) : Fr S n (F_X3_init h) := (Fr.fill (Fr.fr (Fr.nl (a := 11) (by decide) (Fr.fr (Fr.na (a := 23) (by decide) (Fr.fr (Fr.na (a := 22) (by decide) z)))))))
theorem F_X3_init_q4 (z : Q4 h) : Q4 (F_X3_init h) := (Q4.fill (Q4.fr (Q4.nl (a := 11) (by decide) (Q4.fr (Q4.na (a := 23) (by decide) (Q4.fr (Q4.na (a := 22) (by decide) z)))))))
theorem F_X3_init_q2 (h : Hp) : Q2 (F_X3_init h) := (Q2.fill _)
set_option maxRecDepth 20000 in
theorem F_X5_init_fr (z : Fr S n h) : Fr S n (F_X5_init h) := (Fr.fr (Fr.fr (Fr.na (a := 21) (by decide) (Fr.fr (Fr.na (a := 20) (by decide) z)))))
theorem F_X5_init_q4 (z : Q4 h) : Q4 (F_X5_init h) := (Q4.fr (Q4.fr (Q4.na (a := 21) (by decide) (Q4.fr (Q4.na (a := 20) (by decide) z)))))
set_option maxRecDepth 20000 in
theorem F_X5_init_q2 (z : Q2 h) : Q2 (F_X5_init h) := (Q2.fr (Q2.fr (Q2.na (a := 21) (by decide) (Q2.fr (Q2.na (a := 20) (by decide) z)))))
set_option maxRecDepth 20000 in
theorem F_X6_init_fr (z : Fr S n h) : Fr S n (F_X6_init h) := (Fr.fr z)
theorem F_X6_init_q4 (z : Q4 h) : Q4 (F_X6_init h) := (Q4.fr z)
set_option maxRecDepth 20000 in
theorem F_X6_init_q2 (z : Q2 h) : Q2 (F_X6_init h) := (Q2.fr z)
set_option maxRecDepth 20000 in
theorem F_X1_init_fr (z : Fr S n h) : Fr S n (F_X1_init h) := (Fr.fr (Fr.na (a := 27) (by decide) (Fr.fr (Fr.na (a := 26) (by decide) (Fr.fr (Fr.na (a := 25) (by decide) (Fr.fr (Fr.na (a := 24) (by decide) z))))))))
theorem F_X1_init_q4 (z : Q4 h) : Q4 (F_X1_init h) := (Q4.fr (Q4.na (a := 27) (by decide) (Q4.fr (Q4.na (a := 26) (by decide) (Q4.fr (Q4.na (a := 25) (by decide) (Q4.fr (Q4.na (a := 24) (by decide) z))))))))
set_option maxRecDepth 20000 in
theorem F_X1_init_q2 (z : Q2 h) : Q2 (F_X1_init h) := (Q2.fr (Q2.na (a := 27) (by decide) (Q2.fr (Q2.na (a := 26) (by decide) (Q2.fr (Q2.na (a := 25) (by decide) (Q2.fr (Q2.na (a := 24) (by decide) z))))))))
set_option maxRecDepth 20000 in
theorem F_X8_init_fr (z : Fr S n h) : Fr S n (F_X8_init h) := (Fr.fi (905) (0) (Fr.fr (Fr.nl (a := 12) (by decide) (Fr.fr (F_X1_init_fr (Fr.no (a := 2) (by decide) (Fr.fr (F_X6_init_fr (Fr.no (a := 7) (by decide) (Fr.fr (F_X5_init_fr (Fr.no (a := 6) (by decide) (Fr.fr (F_X3_init_fr (Fr.no (a := 4) (by decide) z)))))))))))))))
theorem F_X8_init_q4 (z : Q4 h) : Q4 (F_X8_init h) := (Q4.fi (Q4.fr (Q4.nl (a := 12) (by decide) (Q4.fr (F_X1_init_q4 (Q4.no (a := 2) (by decide) (Q4.fr (F_X6_init_q4 (Q4.no (a := 7) (by decide) (Q4.fr (F_X5_init_q4 (Q4.no (a := 6) (by decide) (Q4.fr (F_X3_init_q4 (Q4.no (a := 4) (by decide) z)))))))))))))))
theorem F_X8_init_q2 (h : Hp) : Q2 (F_X8_init h) := (Q2.fi (Q2.fr (Q2.nl (Q2.fr (F_X1_init_q2 (Q2.no (Q2.fr (F_X6_init_q2 (Q2.no (Q2.fr (F_X5_init_q2 (Q2.no (Q2.fr (F_X3_init_q2 _))))))))))))))
/-- the first heap: CARBON -/
def Hw0 : Hp := (fun _ _ => 0, fun _ _ => none, fun s _ j => if s = 15 then (if j = 0 then 14 else if j = 1 then 30 else 120) else 0, fun s => if s = 15 then 1 else 0, fun _ _ => 0, fun _ => 0, fun _ => 0, fun _ => 0)
/-- a fresh object's heap -/
def Hw1 : Hp := F_X8_init (sNO Hw0 9)
theorem Hw0_fr : Fr (fun _ => 0) 0 Hw0 := by
  refine ⟨fun _ _ => rfl, fun s j h1 h2 h3 => ?_, fun j => rfl, ⟨rfl, rfl, rfl⟩, ⟨rfl, rfl, rfl⟩, Nat.one_pos, rfl, rfl, fun s h1 h2 => ?_⟩
  · show (if s = 15 then _ else (0 : Int32)) = 0
    rw [if_neg h1]
  · show (if s = 15 then 1 else 0) = 0
    rw [if_neg (by omega)]
theorem Hw1_fr : Fr (fun _ => 0) 0 Hw1 := F_X8_init_fr (Fr.no (by decide) Hw0_fr)
theorem Hw1_q4 : Q4 Hw1 := F_X8_init_q4 (show Q4 (sNO Hw0 9) from ⟨rfl, rfl⟩)
theorem Hw1_q2 : Q2 Hw1 := F_X8_init_q2 _
set_option maxRecDepth 100000 in
set_option maxHeartbeats 4000000 in
theorem Hw1_f1 : ∀ f, f ∈ cw_f1 → xFR Hw1 f 0 = some 0 := by
  intro f hf
  have h1 : f = 200 ∨ f = 201 ∨ f = 202 ∨ f = 203 ∨ f = 400 ∨ f = 401 ∨ f = 402 ∨ f = 600 ∨ f = 601 ∨ f = 602 ∨ f = 700 ∨ f = 900 ∨ f = 901 ∨ f = 902 ∨ f = 903 ∨ f = 904 := by simpa [cw_f1] using hf
  rcases h1 with rfl | rfl | rfl | rfl | rfl | rfl | rfl | rfl | rfl | rfl | rfl | rfl | rfl | rfl | rfl | rfl
  · exact rfl
  · exact rfl
  · exact rfl
  · exact rfl
  · exact rfl
  · exact rfl
  · exact rfl
  · exact rfl
  · exact rfl
  · exact rfl
  · exact rfl
  · exact rfl
  · exact rfl
  · exact rfl
  · exact rfl
  · exact rfl
theorem Hw1_iv : IV Hw1 (fun _ => 0) := by
  have z := Hw1_fr
  have q := Hw1_q2
  have q4 := Hw1_q4
  have f1 := Hw1_f1
  generalize Hw1 = h at z q q4 f1 ⊢
  obtain ⟨zF, zA, zS, ⟨zc1, zc2, zc3⟩, ⟨zl1, zl2, zl3⟩, zn1, zn2, zn3, zn4⟩ := z
  refine ⟨⟨⟨f1, fun t ht => by rw [zl1] at ht; omega, by omega, by omega, zn1, fun b hb => by rw [zl2] at hb; omega⟩, ⟨by rw [zn3, zl1], fun s h1 h2 => by rw [zn4 s h1 h2, zl1], by rw [zn2, zl2]⟩, by rw [q4.2]; exact Nat.one_pos, q4.1⟩,
    ⟨⟨0, ⟨by omega, (zF 403 0).trans nI_0.symm, fun s hs => by omega⟩, fun t ht => by rw [zl1] at ht; omega⟩, fun a b ha hb => .inl (q _ (by omega)), fun f hf => ⟨0, 0, 0, by omega, by omega, by omega, (zA 24 f (by decide) (by decide) (by decide)).trans nI_0.symm, (zA 25 f (by decide) (by decide) (by decide)).trans nI_0.symm, (zA 26 f (by decide) (by decide) (by decide)).trans nI_0.symm⟩, fun b hb => by rw [zl2] at hb; omega⟩,
    fun t ht => by rw [zl1] at ht; omega, (zF 403 0).symm, by rw [zl1]; exact nI_0.symm, by rw [zl2]; exact nI_0.symm, fun t ht => by rw [zl1] at ht; omega⟩
end FRESH
