/-! ===== own: an abstract heap of this program; a value is a number or an object known by (site, index); addresses are hidden behind ad ===== -/
abbrev AV : Type := Value ⊕ (Nat × Option Nat)
abbrev Hp : Type := (Nat → Nat → Int32) × (Nat → Nat → Option Nat) × (Nat → Nat → Nat → Int32) × (Nat → Nat) × (Nat → Nat → Nat) × (Nat → Nat) × (Nat → Int64) × (Nat → UInt64)
def xFI (h : Hp) : Nat → Nat → Int32 := h.1
def xFR (h : Hp) : Nat → Nat → Option Nat := h.2.1
def xAI (h : Hp) : Nat → Nat → Nat → Int32 := h.2.2.1
def xCN (h : Hp) : Nat → Nat := h.2.2.2.1
def xLE (h : Hp) : Nat → Nat → Nat := h.2.2.2.2.1
def xLS (h : Hp) : Nat → Nat := h.2.2.2.2.2.1
def xAL (h : Hp) : Nat → Int64 := h.2.2.2.2.2.2.1
def xAD (h : Hp) : Nat → UInt64 := h.2.2.2.2.2.2.2
def up1 {α : Type} (f : Nat → α) (a : Nat) (v : α) : Nat → α := fun x => if x = a then v else f x
def up2 {α : Type} (f : Nat → Nat → α) (a b : Nat) (v : α) : Nat → Nat → α := fun x y => if x = a ∧ y = b then v else f x y
def up3 {α : Type} (f : Nat → Nat → Nat → α) (a b c : Nat) (v : α) : Nat → Nat → Nat → α := fun x y z => if x = a ∧ y = b ∧ z = c then v else f x y z
def sFI (h : Hp) (k i : Nat) (v : Int32) : Hp := (up2 h.1 k i v, h.2)
def sFR (h : Hp) (k i : Nat) (v : Option Nat) : Hp := (h.1, up2 h.2.1 k i v, h.2.2)
def sAI (h : Hp) (s i j : Nat) (v : Int32) : Hp := (h.1, h.2.1, up3 h.2.2.1 s i j v, h.2.2.2)
def sCN (h : Hp) (s n : Nat) : Hp := (h.1, h.2.1, h.2.2.1, up1 h.2.2.2.1 s n, h.2.2.2.2)
def sLE (h : Hp) (s j v : Nat) : Hp := (h.1, h.2.1, h.2.2.1, h.2.2.2.1, up2 h.2.2.2.2.1 s j v, h.2.2.2.2.2)
def sLS (h : Hp) (s n : Nat) : Hp := (h.1, h.2.1, h.2.2.1, h.2.2.2.1, h.2.2.2.2.1, up1 h.2.2.2.2.2.1 s n, h.2.2.2.2.2.2)
def sAL (h : Hp) (v : Int64) : Hp := (h.1, h.2.1, h.2.2.1, h.2.2.2.1, h.2.2.2.2.1, h.2.2.2.2.2.1, up1 h.2.2.2.2.2.2.1 0 v, h.2.2.2.2.2.2.2)
def sAD (h : Hp) (v : UInt64) : Hp := (h.1, h.2.1, h.2.2.1, h.2.2.2.1, h.2.2.2.2.1, h.2.2.2.2.2.1, h.2.2.2.2.2.2.1, up1 h.2.2.2.2.2.2.2 0 v)
/-- a new object of class s: its number is the count so far -/
def sNO (h : Hp) (s : Nat) : Hp := (fun k i => if k / 100 = s ∧ i = h.2.2.2.1 s then 0 else h.1 k i, fun k i => if k / 100 = s ∧ i = h.2.2.2.1 s then none else h.2.1 k i, h.2.2.1, up1 h.2.2.2.1 s (h.2.2.2.1 s + 1), h.2.2.2.2)
/-- a new array of site s, all zero -/
def sNA (h : Hp) (s : Nat) : Hp := (h.1, h.2.1, fun x i j => if x = s ∧ i = h.2.2.2.1 s then 0 else h.2.2.1 x i j, up1 h.2.2.2.1 s (h.2.2.2.1 s + 1), h.2.2.2.2)
-- sites: 1..10 objects (place in vwCl); 11, 12 the lists of trips, of bookings; 13, 14 their rows; 15 CARBON, 16 the script; 17, 18 the law's rows; 20.. arrays
def cy_kd (s : Nat) : Nat := if s = 0 then 0 else if s ≤ 10 then 1 else if s ≤ 12 then 6 else if s ≤ 14 then 7 else if s ≤ 16 then 8 else if s = 17 then 4 else if s = 18 then 5 else if s = 31 then 3 else 2
def cy_lens : List Nat := [0, 0, 0, 0, 0, 0, 0, 0, 0, 0, 0, 0, 0, 0, 0, 3, 0, 1, 1, 0, 50, 50, 10, 100, 3, 3, 3, 5, 6, 6, 6, 100, 100, 30, 0, 0, 0, 0, 0, 0, 10, 100, 20, 20, 20, 20, 20, 120, 120, 120, 2000, 2000, 20, 600, 3, 3, 3, 50, 50, 4, 4, 4, 4, 5, 5, 30, 30, 30, 30, 30, 30, 120, 120, 120, 120, 150]
def cy_ln (h : Hp) (s : Nat) : Nat := if s = 16 then xLS h 16 else cy_lens.getD s 0
def cy_tg : List (List (Option Nat)) := [[], [some 3, none, none, none], [some 24, some 25, some 26, some 27], [none, some 5, none, none, none], [some 22, some 23, some 11, none], [some 8, none, none, none, some 5, none], [some 4, some 20, some 21, none, none, none, none, none], [some 4, none, none, none, none], [none, none, none, none, some 28, some 29, some 30, some 31, some 32, some 33, none, none], [some 4, some 6, some 7, some 2, some 12, none], [none, some 40, some 41, none, some 42, some 43, some 44, some 45, some 46, some 47, some 48, some 49, some 50, some 51, some 52, some 53, some 54, some 55, some 56, some 57, some 58, none, none, none, some 59, some 60, some 61, some 62, some 63, some 64, none, none, some 65, some 66, some 67, some 68, some 69, some 70, some 71, some 72, some 73, some 74, some 75, none]]
/-- the site at which a field's objects are; none: a number -/
def cy_ft (f : Nat) : Option Nat := (cy_tg.getD (f / 100) []).getD (f % 100) none
def cy_nF (s : Nat) : Nat := (cy_tg.getD s []).length
def cy_es (s : Nat) : Nat := if s = 13 then 8 else 1
-- what a launch gives
abbrev GT : Type := Launch × State × Array Value × va_G × (Nat → ClassId) × Nat × Nat × (Nat → Prop) × Heap
def cy_l (g : GT) : Launch := g.1
def cy_s (g : GT) : State := g.2.1
def cy_a (g : GT) : Array Value := g.2.2.1
def cy_D (g : GT) : va_G := g.2.2.2.1
def cy_cA (g : GT) : Nat → ClassId := g.2.2.2.2.1
/-- the address of the JDK's empty row -/
def cy_ea (g : GT) : Nat := g.2.2.2.2.2.1
/-- the address of CARBON -/
def cy_ca (g : GT) : Nat := g.2.2.2.2.2.2.1
/-- the cells that are to stay as they are in cy_HX g -/
def cy_X (g : GT) : Nat → Prop := g.2.2.2.2.2.2.2.1
def cy_HX (g : GT) : Heap := g.2.2.2.2.2.2.2.2
def cy_B (g : GT) : Nat := (cy_s g).heap.size
def cy_tys (g : GT) : List (ClassId × FieldType) := [(cy_cA g 0, .int), (cy_cA g 1, .boolean), (cy_cA g 0, .int), (cy_cA g 0, .int), (cy_cA g 4, .object "java/lang/Object")]
abbrev cy_A (g : GT) : Nat → Prop := fun q => cy_B g ≤ q
def cy_cv (ad : Nat → Nat → Nat) : AV → Value
  | .inl v => v
  | .inr (s, o) => va_rf (o.map (ad s))
def cy_ct : AV → Nat
  | .inl v => v.category
  | .inr _ => 1
def cy_wf (cn : Nat → Nat) : AV → Prop
  | .inl _ => True
  | .inr (s, o) => s ≠ 13 ∧ s ≠ 14 ∧ ∀ i, o = some i → i < cn s
def cy_fv (ad : Nat → Nat → Nat) (h : Hp) (s k i : Nat) : Value := match cy_ft (100 * s + k) with
  | none => .int (xFI h (100 * s + k) i)
  | some t => va_rf ((xFR h (100 * s + k) i).map (ad t))
def cy_fs (ad : Nat → Nat → Nat) (h : Hp) (s i : Nat) : List Value := (List.range (cy_nF s)).map (fun k => cy_fv ad h s k i)
def cy_en (g : GT) (ad : Nat → Nat → Nat) (h : Hp) (s i : Nat) : va_E := match cy_kd s with
  | 1 => .inr (s, cy_fs ad h s i)
  | 3 => .inl (cy_cA g 1, cy_ln h s, .inl (xAI h s i))
  | 4 => .inl (cy_cA g 2, 1, .inr (.inl (xAL h)))
  | 5 => .inl (cy_cA g 3, 1, .inr (.inr (.inr (.inl (xAD h)))))
  | 6 => .inr (0, [.int (xFI h (100 * s) 0), .ref (if xCN h (s + 2) = 0 then cy_ea g else ad (s + 2) 0), .int (nI (xLS h s))])
  | 7 => .inl (cy_cA g 4, xLS h s, .inr (.inr (.inr (.inr (fun j => if j < xLS h (s - 2) then some (ad (cy_es s) (xLE h (s - 2) j)) else none)))))
  | _ => .inl (cy_cA g 0, cy_ln h s, .inl (xAI h s i))
def cy_ok (g : GT) (ad : Nat → Nat → Nat) (h : Hp) (H : Heap) (s i : Nat) : Prop :=
  if cy_kd s = 8 then va_X (ad s i) (cy_ln h s) (xAI h s i) (cy_s g) H else va_at (cy_D g) vwCl (ad s i, cy_en g ad h s i) H
/-- the heap H holds the abstract heap h, its objects at ad -/
def Rel (g : GT) (ad : Nat → Nat → Nat) (h : Hp) (H : Heap) : Prop :=
  (∀ s i, i < xCN h s → cy_ok g ad h H s i) ∧
  (∀ s i t j, i < xCN h s → j < xCN h t → ad s i = ad t j → s = t ∧ i = j) ∧
  (∀ s i, i < xCN h s → cy_kd s ≠ 8 → cy_B g ≤ ad s i) ∧
  (∀ k t i j, cy_ft k = some t → i < xCN h (k / 100) → xFR h k i = some j → j < xCN h t) ∧
  (∀ s j, s = 11 ∨ s = 12 → j < xLS h s → xLE h s j < xCN h (cy_es (s + 2))) ∧
  (∀ s, s = 11 ∨ s = 12 → 0 < xCN h s → (xLS h s = 0 ∧ xCN h (s + 2) = 0) ∨ (xCN h (s + 2) = 1 ∧ xLS h s ≤ xLS h (s + 2) ∧ 2 ≤ xLS h (s + 2) ∧ xLS h (s + 2) ≤ 1000)) ∧
  cy_B g ≤ H.size ∧ (∀ q, q < cy_B g → H[q]? = (cy_s g).heap[q]?) ∧ (∀ s, 11 ≤ s → s ≤ 18 → xCN h s ≤ 1) ∧ (0 < xCN h 15 → ad 15 0 = cy_ca g) ∧
  (∀ s i, i < xCN h s → cy_kd s ≠ 8 → ¬ cy_X g (ad s i)) ∧ (∀ q, cy_X g q → q < H.size ∧ H[q]? = (cy_HX g)[q]?)
/-- the addresses of what was there stay; what was there is there -/
def Ext (ad0 : Nat → Nat → Nat) (cn0 : Nat → Nat) (ad : Nat → Nat → Nat) (cn : Nat → Nat) : Prop := ∀ s i, i < cn0 s → i < cn s ∧ (s ≠ 13 → s ≠ 14 → ad s i = ad0 s i)
theorem cy_ct_cv (ad : Nat → Nat → Nat) (v : AV) : (cy_cv ad v).category = cy_ct v := by
  match v with
  | .inl v => rfl
  | .inr (s, none) => rfl
  | .inr (s, some i) => rfl
theorem Ext.refl (ad : Nat → Nat → Nat) (cn : Nat → Nat) : Ext ad cn ad cn := fun _ _ h => ⟨h, fun _ _ => rfl⟩
theorem Ext.trans {a b c : Nat → Nat → Nat} {ca cb cc : Nat → Nat} (h1 : Ext a ca b cb) (h2 : Ext b cb c cc) : Ext a ca c cc := by
  intro s i hi
  obtain ⟨p1, p2⟩ := h1 s i hi
  obtain ⟨q1, q2⟩ := h2 s i p1
  exact ⟨q1, fun a b => (q2 a b).trans (p2 a b)⟩
theorem cy_cv_ext {a b : Nat → Nat → Nat} {ca cb : Nat → Nat} (h : Ext a ca b cb) {v : AV} (hv : cy_wf ca v) : cy_cv b v = cy_cv a v := by
  match v, hv with
  | .inl v, _ => rfl
  | .inr (s, none), _ => rfl
  | .inr (s, some i), hv => exact congrArg Value.ref ((h s i (hv.2.2 i rfl)).2 hv.1 hv.2.1)
theorem cy_wf_ext {a b : Nat → Nat → Nat} {ca cb : Nat → Nat} (h : Ext a ca b cb) {v : AV} (hv : cy_wf ca v) : cy_wf cb v := by
  match v, hv with
  | .inl v, _ => trivial
  | .inr (s, o), hv => exact ⟨hv.1, hv.2.1, fun i e => (h s i (hv.2.2 i e)).1⟩
