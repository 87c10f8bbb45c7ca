/-! ===== own: the reference finds the way, ride by ride ===== -/
/-- rows that tell a way -/
def ssW : List Nat := [59, 60, 61, 62, 63]
/-- rides m and behind are found -/
def ToldM (h Y0 Y : Hp) (n m a : Nat) (at' t d i j : Nat → Nat) : Prop :=
  FX [] ssW Y0 Y ∧ (∀ x, n ≤ x → xAI Y 63 0 x = xAI Y0 63 0 x) ∧ ∀ x, m ≤ x → x < n → xAI Y 59 0 x = nI (t x) ∧ xAI Y 60 0 x = nI (d x) ∧ xAI Y 61 0 x = nI (i x) ∧ xAI Y 62 0 x = nI (j x) ∧ (x ≠ 0 → xAI Y 63 0 x = cgW h a at' t i x)
theorem ai_eq {h : Hp} {s i j : Nat} {v : Int32} : xAI (sAI h s i j v) s i j = v := by rw [ai_ai, if_pos ⟨rfl, rfl, rfl⟩]
theorem ai_nj {h : Hp} {s i j : Nat} {v : Int32} {s' i' j' : Nat} (hj : ¬ j' = j) : xAI (sAI h s i j v) s' i' j' = xAI h s' i' j' := by rw [ai_ai, if_neg (fun z => hj z.2.2)]
theorem wrR_at {H : Hp} {m t d i j : Nat} : xAI (wrR H m t d i j) 59 0 m = nI t ∧ xAI (wrR H m t d i j) 60 0 m = nI d ∧ xAI (wrR H m t d i j) 61 0 m = nI i ∧ xAI (wrR H m t d i j) 62 0 m = nI j := by
  unfold wrR
  refine ⟨?_, ?_, ?_, ai_eq⟩
  · rw [ai_ne (by decide), ai_ne (by decide), ai_ne (by decide), ai_eq]
  · rw [ai_ne (by decide), ai_ne (by decide), ai_eq]
  · rw [ai_ne (by decide), ai_eq]
theorem wrR_ot {H : Hp} {m t d i j : Nat} {s x : Nat} (hx : ¬ x = m) : xAI (wrR H m t d i j) s 0 x = xAI H s 0 x := by
  unfold wrR
  rw [ai_nj hx, ai_nj hx, ai_nj hx, ai_nj hx]
theorem wrR_fx {H : Hp} {m t d i j : Nat} : FX [] ssW H (wrR H m t d i j) := (((FX.sai (by decide)).trans (FX.sai (by decide))).trans (FX.sai (by decide))).trans (FX.sai (by decide))
theorem wrR_63 {H : Hp} {m t d i j : Nat} {x : Nat} : xAI (wrR H m t d i j) 63 0 x = xAI H 63 0 x := by
  unfold wrR
  rw [ai_ne (by decide), ai_ne (by decide), ai_ne (by decide), ai_ne (by decide)]
theorem MA.w {h Y X : Hp} (a : MA h Y) (q : FX [] ssW Y X) : MA h X := a.fx q (fun f hf => by cases hf) (by decide)
theorem Em_w {Y X : Hp} (q : FX [] ssW Y X) (k : Nat) : Em X k = Em Y k := by funext s; unfold Em; rw [q.2.2 57 (by decide)]
theorem Rm_w {Y X : Hp} (q : FX [] ssW Y X) (k : Nat) : Rm X k = Rm Y k := by funext s; unfold Rm; rw [q.2.2 58 (by decide)]
theorem told_loopM {h Y0 X0 : Hp} {n0 n a b ti : Nat} {e : Int} {xa xb xt : Int32} {at' t d i j : Nat → Nat} (W : CW h) (R : RC h) (hs0 : RStop h n0) (w : World h n0) (ma : MA h Y0) (hti : ti ≤ 140000) (e22 : xFI Y0 1022 0 = nI ti) (hn4 : n ≤ 4) (wy : Way h n0 (Rm Y0) (Em Y0) (ti / 1440 - 1) (ti / 1440 + 1) b n e at' t d i j)
    (hE : ∀ k, k ≠ 0 → k ≤ n → ∀ s, s < n0 → 0 ≤ Em Y0 k s ∧ Em Y0 k s ≤ 100000000) (kx : Hp → Int32 → (Int32 × Hp)) :
    ∀ (m : Nat) (Y : Hp) (s : Int32), m ≤ n → (m ≠ 0 → s = nI (at' m)) → ToldM h Y0 Y n m a at' t d i j →
      ∃ Y' s', L_X9_finds_167 X0 xa xb xt n kx m Y s = kx Y' s' ∧ ToldM h Y0 Y' n 0 a at' t d i j := by
  have h10 := w.1
  intro m
  induction m with
  | zero =>
    intro Y s hm hs q
    exact ⟨Y, s, rfl, q⟩
  | succ m ih =>
    intro Y s hm hs q
    have hs := hs (by omega)
    subst hs
    obtain ⟨q1, q2, q3⟩ := q
    obtain ⟨f, ahd⟩ := wy.2 m (by omega)
    have f0 := f
    obtain ⟨f1, f2, f3, f4, -⟩ := f0
    have hst := (w.2.2.2 (t m) f1).2.2.2.1
    have hat : at' (m + 1) < n0 := by
      have := (hst (j m) f4.2.2.1).2
      rw [f4.2.2.2.1] at this
      exact this
    have hi : i m < lnN h (t m) := by
      have := f4.2.1
      have := f4.2.2.1
      omega
    have mY := ma.w q1
    have er := findsRide_spec W R w mY hti ((q1.2.1 1022 (by decide) 0).trans e22) hat (show m < 4 by omega) (by rw [Rm_w q1, Em_w q1]; exact f)
    obtain ⟨g1, g2, g3, g4⟩ := wrR_at (H := Y) (m := m) (t := t m) (d := d m) (i := i m) (j := j m)
    have qf := q1.trans (wrR_fx (H := Y) (m := m) (t := t m) (d := d m) (i := i m) (j := j m))
    have h0 : ¬ nI (m + 1) ≤ (0 : Int32) := fun z => by
      have := (nI_leI (a := m + 1) (b := 0) (by omega) (by decide)).mp z
      omega
    by_cases m0 : m = 0
    · subst m0
      refine ⟨wrR Y 0 (t 0) (d 0) (i 0) (j 0), nI (at' (0 + 1)), ?_, qf, fun x hx => by rw [wrR_63]; exact q2 x hx, fun x hx hxn => ?_⟩
      · show B_X9_finds_167 X0 xa xb xt n kx 0 (L_X9_finds_167 X0 xa xb xt n kx 0) Y (nI (at' (0 + 1))) = _
        unfold B_X9_finds_167
        rw [if_neg h0, if_pos (by decide), er]
        rfl
      · by_cases ex : x = 0
        · subst ex
          exact ⟨g1, g2, g3, g4, fun z => absurd rfl z⟩
        · obtain ⟨b1, b2, b3, b4, b5⟩ := q3 x (by omega) hxn
          rw [wrR_ot ex, wrR_ot ex, wrR_ot ex, wrR_ot ex, wrR_ot ex]
          exact ⟨b1, b2, b3, b4, b5⟩
    · obtain ⟨H', eh, p1, p2, p3⟩ := aheadOf_spec W R hs0 w (ma.w qf) (show m < 4 by omega) f1 (by omega) hi g1 g2 g3 (fun x hx => by rw [Em_w qf]; exact hE m m0 (by omega) x hx) (by rw [Em_w qf]; exact ahd m0)
      have qh : FX [] ssW Y0 H' := qf.trans (p1.mono (fun f hf => hf) (fun s hs => by simp only [List.mem_singleton] at hs; subst hs; decide))
      have ot : ∀ s, s ≠ 63 → ∀ x, xAI H' s 0 x = xAI (wrR Y m (t m) (d m) (i m) (j m)) s 0 x := fun s hs x => p1.2.2 s (fun z => hs (by simpa using z)) 0 x
      obtain ⟨Y', s', ey, qy⟩ := ih H' (nI (at' m)) (by omega) (fun _ => rfl) ⟨qh, fun x hx => by rw [p3 x (by omega), wrR_63]; exact q2 x hx, fun x hx hxn => by
        rw [ot 59 (by decide), ot 60 (by decide), ot 61 (by decide), ot 62 (by decide)]
        by_cases ex : x = m
        · subst ex
          refine ⟨g1, g2, g3, g4, fun z => ?_⟩
          rw [p2]
          unfold cgW
          rw [if_neg z]
        · obtain ⟨b1, b2, b3, b4, b5⟩ := q3 x (by omega) hxn
          rw [p3 x ex, wrR_ot ex, wrR_ot ex, wrR_ot ex, wrR_ot ex, wrR_ot ex]
          exact ⟨b1, b2, b3, b4, b5⟩⟩
      refine ⟨Y', s', ?_, qy⟩
      show B_X9_finds_167 X0 xa xb xt n kx m (L_X9_finds_167 X0 xa xb xt n kx m) Y (nI (at' (m + 1))) = _
      unfold B_X9_finds_167
      rw [if_neg h0, if_neg (fun z => by have := (nI_leI (a := m + 1) (b := 1) (by omega) (by decide)).mp z; omega), er, eh]
      exact ey
