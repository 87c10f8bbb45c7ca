/-! ===== own: two objects side by side: what differs without being told, what is left behind ===== -/
def zF : List Nat := [603, 604, 605, 606, 607]
def zA : List Nat := [20, 21]
/-- the same but for the search's own numbers -/
def ZX (h h' : Hp) : Prop := SR h h' ∧ (∀ f i, ¬ (f ∈ zF ∧ i = 0) → xFI h' f i = xFI h f i) ∧ ∀ s i j, ¬ (s ∈ zA ∧ i = 0 ∧ j < 50) → xAI h' s i j = xAI h s i j
theorem ZX.rf {h : Hp} : ZX h h := ⟨SR.rf, fun _ _ _ => rfl, fun _ _ _ _ => rfl⟩
theorem ZX.trans {a b c : Hp} (x : ZX a b) (y : ZX b c) : ZX a c := ⟨x.1.trans y.1, fun f i n => (y.2.1 f i n).trans (x.2.1 f i n), fun s i j n => (y.2.2 s i j n).trans (x.2.2 s i j n)⟩
theorem ZX.symm {a b : Hp} (x : ZX a b) : ZX b a := ⟨⟨x.1.1.symm, x.1.2.symm⟩, fun f i n => (x.2.1 f i n).symm, fun s i j n => (x.2.2 s i j n).symm⟩
theorem ZX.cn {h h' : Hp} (x : ZX h h') : xCN h' = xCN h := congrArg (fun z => z.1) x.1.2
theorem ZX.fr {h h' : Hp} (x : ZX h h') : xFR h' = xFR h := x.1.1
theorem ZX.ls {h h' : Hp} (x : ZX h h') : xLS h' = xLS h := congrArg (fun z => z.2.2.1) x.1.2
/-- h1 is k grown, the search's own numbers apart: new rides and journeys -/
def GZ (k h1 : Hp) : Prop :=
  (∀ f i, i < xCN k (f / 100) → xFR h1 f i = xFR k f i) ∧ (∀ f i, ¬ (f ∈ zF ∧ i = 0) → i < xCN k (f / 100) → xFI h1 f i = xFI k f i) ∧ (∀ s i j, ¬ (s ∈ zA ∧ i = 0 ∧ j < 50) → i < xCN k s → xAI h1 s i j = xAI k s i j) ∧
  (∀ s, s ≠ 3 → s ≠ 5 → xCN h1 s = xCN k s) ∧ xCN k 3 ≤ xCN h1 3 ∧ xCN k 5 ≤ xCN h1 5 ∧ h1.2.2.2.2 = k.2.2.2.2
theorem GZ.rf {k : Hp} : GZ k k := ⟨fun _ _ _ => rfl, fun _ _ _ _ => rfl, fun _ _ _ _ _ => rfl, fun _ _ _ => rfl, Nat.le_refl _, Nat.le_refl _, rfl⟩
theorem GZ.cnle {k h1 : Hp} (x : GZ k h1) (s : Nat) : xCN k s ≤ xCN h1 s := by
  by_cases q3 : s = 3
  · rw [q3]; exact x.2.2.2.2.1
  · by_cases q5 : s = 5
    · rw [q5]; exact x.2.2.2.2.2.1
    · exact Nat.le_of_eq (x.2.2.2.1 s q3 q5).symm
theorem GZ.trans {a b c : Hp} (x : GZ a b) (y : GZ b c) : GZ a c :=
  ⟨fun f i o => (y.1 f i (Nat.lt_of_lt_of_le o (x.cnle _))).trans (x.1 f i o), fun f i n o => (y.2.1 f i n (Nat.lt_of_lt_of_le o (x.cnle _))).trans (x.2.1 f i n o), fun s i j n o => (y.2.2.1 s i j n (Nat.lt_of_lt_of_le o (x.cnle _))).trans (x.2.2.1 s i j n o),
   fun s h3 h5 => (y.2.2.2.1 s h3 h5).trans (x.2.2.2.1 s h3 h5), Nat.le_trans x.2.2.2.2.1 y.2.2.2.2.1, Nat.le_trans x.2.2.2.2.2.1 y.2.2.2.2.2.1, y.2.2.2.2.2.2.trans x.2.2.2.2.2.2⟩
theorem ZX.gz {h h' : Hp} (x : ZX h h') : GZ h h' :=
  ⟨fun f i _ => by rw [x.fr], fun f i n _ => x.2.1 f i n, fun s i j n _ => x.2.2 s i j n, fun s _ _ => by rw [x.cn], Nat.le_of_eq (by rw [x.cn]), Nat.le_of_eq (by rw [x.cn]), congrArg (fun z => z.2) x.1.2⟩
/-- all that is held on to is there -/
def CLO (k : Hp) : Prop := ∀ f t i j, cy_ft f = some t → i < xCN k (f / 100) → xFR k f i = some j → j < xCN k t
theorem CLO.zx {h h' : Hp} (c : CLO h) (x : ZX h h') : CLO h' := fun f t i j h1 h2 h3 => by
  rw [x.cn] at h2 ⊢
  rw [x.fr] at h3
  exact c f t i j h1 h2 h3
theorem Rel.clo {g : GT} {ad : Nat → Nat → Nat} {h : Hp} {H : Heap} (hR : Rel g ad h H) : CLO h := hR.2.2.2.1
/-- k with h1's search numbers -/
def mx (k h1 : Hp) : Hp := (fun f i => if f ∈ zF ∧ i = 0 then xFI h1 f i else xFI k f i, k.2.1, fun s i j => if s ∈ zA ∧ i = 0 ∧ j < 50 then xAI h1 s i j else xAI k s i j, k.2.2.2)
theorem mx_zx (k h1 : Hp) : ZX k (mx k h1) := ⟨⟨rfl, rfl⟩, fun _ _ n => if_neg n, fun _ _ _ n => if_neg n⟩
/-- what nobody holds on to is forgotten -/
theorem Rel.drop {g : GT} {ad : Nat → Nat → Nat} {k h1 : Hp} {H : Heap} (hR : Rel g ad h1 H) (x : GZ k h1) (c : CLO k) : Rel g ad (mx k h1) H := by
  obtain ⟨r1, r2, r3, r4, r5, r6, r7, r8, r9, r10, r11, r12⟩ := hR
  obtain ⟨x1, x2, x3, x4, x5, x6, x7⟩ := x
  have x : GZ k h1 := ⟨x1, x2, x3, x4, x5, x6, x7⟩
  have eLS : xLS h1 = xLS k := congrArg (fun z => z.2.1) x7
  have eLE : xLE h1 = xLE k := congrArg (fun z => z.1) x7
  have eAL : xAL h1 = xAL k := congrArg (fun z => z.2.2.1) x7
  have eAD : xAD h1 = xAD k := congrArg (fun z => z.2.2.2) x7
  have up : ∀ s i, i < xCN k s → i < xCN h1 s := fun s i hi => Nat.lt_of_lt_of_le hi (x.cnle s)
  have hFI : ∀ f i, i < xCN k (f / 100) → xFI (mx k h1) f i = xFI h1 f i := fun f i hi => by
    show (if f ∈ zF ∧ i = 0 then xFI h1 f i else xFI k f i) = _
    by_cases n : f ∈ zF ∧ i = 0
    · rw [if_pos n]
    · rw [if_neg n, x2 f i n hi]
  have hFR : ∀ f i, i < xCN k (f / 100) → xFR (mx k h1) f i = xFR h1 f i := fun f i hi => (x1 f i hi).symm
  have hAI : ∀ s i, i < xCN k s → xAI (mx k h1) s i = xAI h1 s i := fun s i hi => by
    funext j
    show (if s ∈ zA ∧ i = 0 ∧ j < 50 then xAI h1 s i j else xAI k s i j) = _
    by_cases n : s ∈ zA ∧ i = 0 ∧ j < 50
    · rw [if_pos n]
    · rw [if_neg n, x3 s i j n hi]
  have hln : ∀ s, cy_ln (mx k h1) s = cy_ln h1 s := fun s => by unfold cy_ln; rw [eLS]; rfl
  have hfs : ∀ s i, i < xCN k s → cy_fs ad (mx k h1) s i = cy_fs ad h1 s i := by
    intro s i hi
    unfold cy_fs
    refine List.map_congr_left fun z hz => ?_
    have hz2 : z < cy_nF s := List.mem_range.mp hz
    have h44 := cy_nF_le s
    have e1 : (100 * s + z) / 100 = s := by omega
    unfold cy_fv
    rw [hFI _ _ (by rw [e1]; exact hi), hFR _ _ (by rw [e1]; exact hi)]
  have hen : ∀ s i, i < xCN k s → cy_en g ad (mx k h1) s i = cy_en g ad h1 s i := by
    intro s i hi
    unfold cy_en
    split
    · rw [hfs s i hi]
    · rw [hln, hAI s i hi]
    · show _ = Sum.inl (cy_cA g 2, 1, Sum.inr (Sum.inl (xAL h1)))
      rw [eAL]; rfl
    · show _ = Sum.inl (cy_cA g 3, 1, Sum.inr (Sum.inr (Sum.inr (Sum.inl (xAD h1)))))
      rw [eAD]; rfl
    · rename_i hkd
      have ht : s = 11 ∨ s = 12 := by
        unfold cy_kd at hkd
        repeat' split at hkd
        all_goals first | omega | (cases hkd)
      have e1 : (100 * s) / 100 = s := by omega
      have h0 : 0 < xCN k s := Nat.lt_of_le_of_lt (Nat.zero_le _) hi
      rw [hFI (100 * s) 0 (by rw [e1]; exact h0), eLS, x4 (s + 2) (by omega) (by omega)]
      rfl
    · rw [eLS, eLE]; rfl
    · rw [hln, hAI s i hi]
  refine ⟨fun s i hi => ?_, fun s i t j hi hj => r2 s i t j (up s i hi) (up t j hj), fun s i hi => r3 s i (up s i hi), fun f t i j hf hi hj => c f t i j hf hi hj, fun s j hs hj => ?_, fun s hs hc => ?_, r7, r8, fun s h11 h18 => Nat.le_trans (x.cnle s) (r9 s h11 h18), fun h15 => r10 (up 15 0 h15), fun s i hi => r11 s i (up s i hi), r12⟩
  · have h0 := r1 s i (up s i hi)
    unfold cy_ok at h0 ⊢
    by_cases h8 : cy_kd s = 8
    · rw [if_pos h8] at h0 ⊢
      rw [hln, hAI s i hi]
      exact h0
    · rw [if_neg h8] at h0 ⊢
      rw [hen s i hi]
      exact h0
  · have h5 := r5 s j hs (by rw [eLS]; exact hj)
    rw [eLE] at h5
    have : xCN h1 (cy_es (s + 2)) = xCN k (cy_es (s + 2)) := x4 _ (by unfold cy_es; split <;> decide) (by unfold cy_es; split <;> decide)
    rw [this] at h5
    exact h5
  · have h6 := r6 s hs (by rw [x4 s (by omega) (by omega)]; exact hc)
    rw [eLS, x4 (s + 2) (by omega) (by omega)] at h6
    exact h6
/-! ===== own: the law's world ===== -/
/-- the two objects' heaps, the law's row, the script and its length -/
abbrev Wd : Type := Hp × Hp × (Nat → Int32) × (Nat → Int32) × Nat
def wD (w : Wd) : Nat → Int32 := w.2.2.1
def wS (w : Wd) : Nat → Int32 := w.2.2.2.1
def wN (w : Wd) : Nat := w.2.2.2.2
-- the law's places: 1, 2 the objects; 3 its row of 43; 4 the script
def cnL : Nat → Nat := fun s => if 1 ≤ s ∧ s ≤ 4 then 1 else 0
/-- g with other pins -/
def pn (g : GT) (X : Nat → Prop) (H : Heap) : GT := (g.1, g.2.1, g.2.2.1, g.2.2.2.1, g.2.2.2.2.1, g.2.2.2.2.2.1, g.2.2.2.2.2.2.1, X, H)
/-- an object's cells -/
def ftp (ad : Nat → Nat → Nat) (cn : Nat → Nat) (q : Nat) : Prop := ∃ s i, i < cn s ∧ cy_kd s ≠ 8 ∧ q = ad s i
/-- one object, its heap h up to the search's numbers, its cells none of X -/
def One (g : GT) (a : Nat) (X : Nat → Prop) (h : Hp) (H : Heap) (ad : Nat → Nat → Nat) (h' : Hp) : Prop := ZX h h' ∧ Rel (pn g (fun _ => False) H) ad h' H ∧ a = ad 9 0 ∧ 0 < xCN h' 9 ∧ xCN h' 16 = 0 ∧ ∀ q, ftp ad (xCN h') q → ¬ X q
def RelL (g : GT) (ad : Nat → Nat → Nat) (w : Wd) (H : Heap) : Prop :=
  ∃ (aO aT : Nat → Nat → Nat) (hO hT : Hp), One g (ad 1 0) (fun q => ftp aT (xCN hT) q ∨ q = ad 3 0) w.1 H aO hO ∧ One g (ad 2 0) (fun q => ftp aO (xCN hO) q ∨ q = ad 3 0) w.2.1 H aT hT ∧
    va_at (cy_D g) vwCl (ad 3 0, .inl (cy_cA g 0, 43, .inl (wD w))) H ∧ cy_B g ≤ ad 3 0 ∧ va_X (ad 4 0) (wN w) (wS w) (cy_s g) H ∧ (ad 4 0 < cy_B g ∧ cy_ca g < cy_B g)
theorem RelL.sz {g : GT} {ad : Nat → Nat → Nat} {w : Wd} {H : Heap} (hR : RelL g ad w H) : cy_B g ≤ H.size := by
  obtain ⟨aO, aT, hO, hT, ⟨-, q, -⟩, -⟩ := hR
  exact q.2.2.2.2.2.2.1
theorem RelL.old {g : GT} {ad : Nat → Nat → Nat} {w : Wd} {H : Heap} (hR : RelL g ad w H) : ∀ q, q < cy_B g → H[q]? = (cy_s g).heap[q]? := by
  obtain ⟨aO, aT, hO, hT, ⟨-, q, -⟩, -⟩ := hR
  exact q.2.2.2.2.2.2.2.1
/-- the other one first -/
def sw (w : Wd) : Wd := (w.2.1, w.1, w.2.2)
def swA (ad : Nat → Nat → Nat) : Nat → Nat → Nat := fun s i => if s = 1 then ad 2 i else if s = 2 then ad 1 i else ad s i
theorem RelL.swap {g : GT} {ad : Nat → Nat → Nat} {w : Wd} {H : Heap} (hR : RelL g ad w H) : RelL g (swA ad) (sw w) H := by
  obtain ⟨aO, aT, hO, hT, h1, h2, h3⟩ := hR
  exact ⟨aT, aO, hT, hO, h2, h1, h3⟩
theorem swA_swA (ad : Nat → Nat → Nat) : swA (swA ad) = ad := by
  funext s i
  unfold swA
  by_cases h1 : s = 1
  · rw [if_pos h1, if_neg (by decide), if_pos rfl, h1]
  · rw [if_neg h1]
    by_cases h2 : s = 2
    · rw [if_pos h2, if_pos rfl, h2]
    · rw [if_neg h2, if_neg h1, if_neg h2]
/-- what the cells of one object hold, other pins -/
theorem Rel.pins {g : GT} {X Y : Nat → Prop} {G G' : Heap} {ad : Nat → Nat → Nat} {h : Hp} {H : Heap} (hR : Rel (pn g X G) ad h H) (h1 : ∀ s i, i < xCN h s → cy_kd s ≠ 8 → ¬ Y (ad s i)) (h2 : ∀ q, Y q → q < H.size ∧ H[q]? = G'[q]?) : Rel (pn g Y G') ad h H := by
  obtain ⟨r1, r2, r3, r4, r5, r6, r7, r8, r9, r10, r11, r12⟩ := hR
  exact ⟨r1, r2, r3, r4, r5, r6, r7, r8, r9, r10, h1, h2⟩
/-- the other's cells, where they are as they were -/
theorem Rel.stay {g : GT} {G G' : Heap} {ad : Nat → Nat → Nat} {h : Hp} {H H1 : Heap} (hg : cy_ca g < cy_B g) (hR : Rel (pn g (fun _ => False) G) ad h H) (h16 : xCN h 16 = 0) (hz : H.size ≤ H1.size) (hB : ∀ q, q < cy_B g → H1[q]? = H[q]?) (hq : ∀ q, ftp ad (xCN h) q → H1[q]? = H[q]?) : Rel (pn g (fun _ => False) G') ad h H1 := by
  obtain ⟨r1, r2, r3, r4, r5, r6, r7, r8, r9, r10, r11, r12⟩ := hR
  refine ⟨fun s i hi => ?_, r2, r3, r4, r5, r6, Nat.le_trans r7 hz, fun q h => (hB q h).trans (r8 q h), r9, r10, fun _ _ _ _ q => q, fun q w => w.elim⟩
  have h0 := r1 s i hi
  unfold cy_ok at h0 ⊢
  by_cases h8 : cy_kd s = 8
  · rw [if_pos h8] at h0 ⊢
    refine h0.kept (hB _ ?_)
    have hs : s = 15 ∨ s = 16 := by
      unfold cy_kd at h8
      repeat' split at h8
      all_goals first | omega | (cases h8)
    rcases hs with rfl | rfl
    · have i0 : i = 0 := by have := r9 15 (by decide) (by decide); omega
      subst i0
      rw [r10 hi]
      exact hg
    · rw [h16] at hi
      omega
  · rw [if_neg h8] at h0 ⊢
    exact h0.kept (hq _ ⟨s, i, hi, h8, rfl⟩)
theorem pn_sf {g : GT} (hg : SF g) (X : Nat → Prop) (H : Heap) : SF (pn g X H) := hg
/-- behind a call on the first object -/
theorem RelL.behind {g : GT} {ad : Nat → Nat → Nat} {w : Wd} {H H1 : Heap} {aO aT aO' : Nat → Nat → Nat} {hO hT k k' : Hp} (h1 : One g (ad 1 0) (fun q => ftp aT (xCN hT) q ∨ q = ad 3 0) w.1 H aO hO) (h2 : One g (ad 2 0) (fun q => ftp aO (xCN hO) q ∨ q = ad 3 0) w.2.1 H aT hT)
    (h3 : va_at (cy_D g) vwCl (ad 3 0, .inl (cy_cA g 0, 43, .inl (wD w))) H) (h4 : cy_B g ≤ ad 3 0) (h5 : va_X (ad 4 0) (wN w) (wS w) (cy_s g) H) (h6 : ad 4 0 < cy_B g ∧ cy_ca g < cy_B g)
    (hz : H.size ≤ H1.size) (hR : Rel (pn g (fun q => ftp aT (xCN hT) q ∨ q = ad 3 0) H) aO' k' H1) (hx : aO' 9 0 = aO 9 0) (h9 : 0 < xCN k' 9) (h16 : xCN k' 16 = 0) (hk : ZX k k') : RelL g ad (k, w.2) H1 := by
  obtain ⟨p1, p2, p3, p4, p5, p6⟩ := h1
  obtain ⟨q1, q2, q3, q4, q5, q6⟩ := h2
  have r11 := hR.2.2.2.2.2.2.2.2.2.2.1
  have r12 := hR.2.2.2.2.2.2.2.2.2.2.2
  have hB : ∀ q, q < cy_B g → H1[q]? = H[q]? := fun q h => (hR.2.2.2.2.2.2.2.1 q h).trans (p2.2.2.2.2.2.2.2.1 q h).symm
  refine ⟨aO', aT, k', hT, ⟨hk, hR.pins (fun _ _ _ _ q => q) (fun q z => z.elim), p3.trans hx.symm, h9, h16, fun q ⟨s, i, hi, h8, e⟩ z => r11 s i hi h8 (e ▸ z)⟩, ⟨q1, q2.stay h6.2 q5 hz hB (fun q z => (r12 q (.inl z)).2), q3, q4, q5, fun q z y => ?_⟩, h3.kept (r12 _ (.inr rfl)).2, h4, h5.kept (hB _ h6.1), h6⟩
  rcases y with ⟨s, i, hi, h8, e⟩ | y
  · exact r11 s i hi h8 (.inl (e ▸ z))
  · exact q6 q z (.inr y)
/-- ahead of a call on the first object -/
theorem One.ahead {g : GT} {a : Nat} {X : Nat → Prop} {h : Hp} {H : Heap} {ad : Nat → Nat → Nat} {h' : Hp} (o : One g a X h H ad h') (hX : ∀ q, X q → q < H.size) : Rel (pn g X H) ad h' H :=
  o.2.1.pins (fun s i hi h8 z => o.2.2.2.2.2 _ ⟨s, i, hi, h8, rfl⟩ z) (fun q z => ⟨hX q z, rfl⟩)
theorem One.lt {g : GT} {a : Nat} {X : Nat → Prop} {h : Hp} {H : Heap} {ad : Nat → Nat → Nat} {h' : Hp} (o : One g a X h H ad h') {q : Nat} (z : ftp ad (xCN h') q) : q < H.size := by
  obtain ⟨s, i, hi, -, e⟩ := z
  rw [e]
  exact cy_ok_lt o.2.1 hi
