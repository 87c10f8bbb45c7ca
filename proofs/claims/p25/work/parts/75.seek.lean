/-! ===== own: who begins later arrives no earlier; what is found lies behind the beginning ===== -/
theorem CandT.le {h : Hp} {n0 : Nat} (w : World h n0) {R R' : Nat → Int} {fd ld : Nat} (r : ∀ s, s < n0 → R s ≤ R' s) {s : Nat} {v : Int} (c : CandT h R' fd ld (xLS h 11) s v) : CandT h R fd ld (xLS h 11) s v := by
  obtain ⟨t, d, h1, h2, h3, h4, i, j, h5, h6, h7, h8, h9⟩ := c
  have hi := ((w.2.2.2 t h1).2.2.2.1 i (by omega)).2
  have := r _ hi
  exact ⟨t, d, h1, h2, h3, h4, i, j, h5, h6, by omega, h8, h9⟩
theorem Rdy.le {h : Hp} {n0 : Nat} {E E' : Nat → Int} (r : ∀ s, s < n0 → E s ≤ E' s) {s : Nat} {v : Int} (q : Rdy h n0 E' s v) : ∃ u, Rdy h n0 E s u ∧ u ≤ v := by
  obtain ⟨a, h1, h2, h3, rfl⟩ := q
  have := r a h1
  exact ⟨E a + (chI h a s).toInt, ⟨a, h1, by omega, h3, rfl⟩, by omega⟩
theorem EndW.le {h : Hp} {n0 : Nat} {E E' : Nat → Int} (r : ∀ s, s < n0 → E s ≤ E' s) {b : Nat} {v : Int} (q : EndW h n0 E' b v) : ∃ u, EndW h n0 E b u ∧ u ≤ v := by
  obtain ⟨a, h1, h2, h3, rfl⟩ := q
  have := r a h1
  exact ⟨E a + (toB h b a).toInt, ⟨a, h1, by omega, h3, rfl⟩, by omega⟩
theorem Rdy.bnd {h : Hp} {n0 s : Nat} {E : Nat → Int} {v : Int} (sm : Small h n0) (hs : s < n0) (hE : ∀ s, s < n0 → 0 ≤ E s ∧ (E s ≤ 300000 ∨ E s = 1000000000)) (q : Rdy h n0 E s v) : 0 ≤ v ∧ v ≤ 300200 := by
  obtain ⟨a, h1, h2, h3, rfl⟩ := q
  have := hE a h1
  rcases sm a s h1 hs with z | z
  · exact absurd z h3
  · omega
/-- the same day, not earlier: no row earlier -/
theorem search_mono {h HC HC' : Hp} {n0 n n' a b b' ti ti' : Nat} (w : World h n0) (sm : Small h n0) (ha : a < n0) (h1 : ti ≤ ti') (h2 : ti / 1440 = ti' / 1440) (hti : ti' ≤ 140000) (c : SearchC h HC n0 n a b ti) (c' : SearchC h HC' n0 n' a b' ti') : ∀ k, k ≤ n → k ≤ n' → ∀ s, s < n0 → Rc HC k s ≤ Rc HC' k s ∧ (k ≠ 0 → Ec HC k s ≤ Ec HC' k s) := by
  intro k
  induction k with
  | zero =>
    intro _ _ s hs
    refine ⟨(c.2.2.2.2.2.2.1 s hs).le (c'.2.2.2.2.2.2.1 s hs) (fun v q => by have := R0.bnd sm ha hs (by omega) q; omega) (fun v q => ?_), fun z => absurd rfl z⟩
    rcases q with ⟨e, rfl⟩ | ⟨e1, e2, rfl⟩
    · exact ⟨ti, .inl ⟨e, rfl⟩, by omega⟩
    · exact ⟨_, .inr ⟨e1, e2, rfl⟩, by omega⟩
  | succ k ih =>
    intro hn hn' s hs
    have ih := ih (by omega) (by omega)
    have l := c.2.2.2.2.2.2.2 k (by omega)
    have l' := c'.2.2.2.2.2.2.2 k (by omega)
    rw [← h2] at l'
    have e : ∀ s, s < n0 → Ec HC (k + 1) s ≤ Ec HC' (k + 1) s := fun s hs => (l s hs).1.le (l' s hs).1 (fun v q => by have := CandT.bnd w (by omega) q; omega) (fun v q => ⟨v, q.le w (fun x hx => (ih x hx).1), Int.le_refl _⟩)
    refine ⟨(l s hs).2.le (l' s hs).2 (fun v q => by have := q.bnd sm hs (hEcC w (by omega) c (k + 1) (by omega) hn); omega) (fun v q => q.le e), fun _ => e s hs⟩
theorem search_uniq {h HC HC' : Hp} {n0 n n' a b b' ti : Nat} (w : World h n0) (sm : Small h n0) (ha : a < n0) (hti : ti ≤ 140000) (c : SearchC h HC n0 n a b ti) (c' : SearchC h HC' n0 n' a b' ti) {k : Nat} (hk : k ≤ n) (hk' : k ≤ n') {s : Nat} (hs : s < n0) : Rc HC' k s = Rc HC k s ∧ (k ≠ 0 → Ec HC' k s = Ec HC k s) := by
  have h1 := search_mono w sm ha (Nat.le_refl _) rfl hti c c' k hk hk' s hs
  have h2 := search_mono w sm ha (Nat.le_refl _) rfl hti c' c k hk' hk s hs
  refine ⟨by omega, fun z => ?_⟩
  have := h1.2 z
  have := h2.2 z
  omega
/-- the end, later or by the same rides -/
theorem end_mono {h HC HC' : Hp} {n0 n n' a b ti ti' k : Nat} (w : World h n0) (sm : Small h n0) (ha : a < n0) (hb : b < n0) (h1 : ti ≤ ti') (h2 : ti / 1440 = ti' / 1440) (hti : ti' ≤ 140000) (hn : n ≤ 4) (hn' : n' ≤ 4) (c : SearchC h HC n0 n a b ti) (c' : SearchC h HC' n0 n' a b ti') (hk : k ≠ 0) (hkn : k ≤ n) (hkn' : k ≤ n') : (F_X5_end HC (nI k)).toInt ≤ (F_X5_end HC' (nI k)).toInt := by
  have m := search_mono w sm ha h1 h2 hti c c' k hkn hkn'
  exact (endC w sm hb (by omega) c hk hkn hn).le (endC w sm hb hti c' hk hkn' hn') (fun v q => by have := q.bnd w sm hb (by omega) c hk hkn; omega) (fun v q => q.le (fun s hs => (m s hs).2 hk))
theorem end_uniq {h HC HC' : Hp} {n0 n n' a b ti k : Nat} (w : World h n0) (sm : Small h n0) (ha : a < n0) (hb : b < n0) (hti : ti ≤ 140000) (hn : n ≤ 4) (hn' : n' ≤ 4) (c : SearchC h HC n0 n a b ti) (c' : SearchC h HC' n0 n' a b ti) (hk : k ≠ 0) (hkn : k ≤ n) (hkn' : k ≤ n') : F_X5_end HC' (nI k) = F_X5_end HC (nI k) := by
  apply Int32.toInt_inj.mp
  have h1 := end_mono w sm ha hb (Nat.le_refl _) rfl hti hn hn' c c' hk hkn hkn'
  have h2 := end_mono w sm ha hb (Nat.le_refl _) rfl hti hn' hn c' c hk hkn' hkn
  omega
theorem end_bnd {h HC : Hp} {n0 n a b ti k : Nat} (w : World h n0) (sm : Small h n0) (hb : b < n0) (hti : ti ≤ 140000) (hn : n ≤ 4) (c : SearchC h HC n0 n a b ti) (hk : k ≠ 0) (hkn : k ≤ n) : (F_X5_end HC (nI k)).toInt = 1000000000 ∨ (0 ≤ (F_X5_end HC (nI k)).toInt ∧ (F_X5_end HC (nI k)).toInt ≤ 300200) := by
  rcases endC w sm hb hti c hk hkn hn with ⟨e, -⟩ | ⟨q, -⟩
  · exact .inl e
  · exact .inr (q.bnd w sm hb hti c hk hkn)
/-- nothing is reached ahead of the beginning -/
theorem search_low {h HC : Hp} {n0 n a b ti : Nat} (w : World h n0) (sm : Small h n0) (ha : a < n0) (hti : ti ≤ 140000) (c : SearchC h HC n0 n a b ti) : ∀ k, k ≤ n → ∀ s, s < n0 → (ti : Int) ≤ Rc HC k s ∧ (k ≠ 0 → (ti : Int) < Ec HC k s) := by
  intro k
  induction k with
  | zero =>
    intro _ s hs
    refine ⟨?_, fun z => absurd rfl z⟩
    rcases c.2.2.2.2.2.2.1 s hs with ⟨e, -⟩ | ⟨q, -⟩
    · omega
    · rcases q with ⟨-, e⟩ | ⟨e1, e2, e⟩
      · omega
      · have := sm a s ha hs
        unfold chI at this
        rw [if_neg (fun z => e1 z.symm)] at this
        rcases this with z | z
        · exact absurd z e2
        · omega
  | succ k ih =>
    intro hn s hs
    have ih := ih (by omega)
    have l := c.2.2.2.2.2.2.2 k (by omega)
    have e : ∀ s, s < n0 → (ti : Int) < Ec HC (k + 1) s := by
      intro s hs
      rcases (l s hs).1 with ⟨e, -⟩ | ⟨q, -⟩
      · omega
      · obtain ⟨t, d, h1, h2, h3, h4, i, j, h5, h6, h7, h8, h9⟩ := q
        have hi := ((w.2.2.2 t h1).2.2.2.1 i (by omega)).2
        have := (ih _ hi).1
        have := dp_ar w h1 (show d < 100 by omega) h4 h5 h6
        omega
    refine ⟨?_, fun _ => e s hs⟩
    rcases (l s hs).2 with ⟨e1, -⟩ | ⟨q, -⟩
    · omega
    · obtain ⟨x, x1, x2, x3, x4⟩ := q
      have := e x x1
      rcases sm x s x1 hs with z | z
      · exact absurd z x3
      · omega
theorem end_low {h HC : Hp} {n0 n a b ti k : Nat} (w : World h n0) (sm : Small h n0) (ha : a < n0) (hb : b < n0) (hti : ti ≤ 140000) (hn : n ≤ 4) (c : SearchC h HC n0 n a b ti) (hk : k ≠ 0) (hkn : k ≤ n) : (ti : Int) < (F_X5_end HC (nI k)).toInt := by
  rcases endC w sm hb hti c hk hkn hn with ⟨e, -⟩ | ⟨⟨s, s1, s2, s3, s4⟩, -⟩
  · omega
  · have := (search_low w sm ha hti c k hkn s s1).2 hk
    rcases toB_sm sm hb s1 with z | z
    · exact absurd z s3
    · omega
/-- a way is there, and is told -/
theorem tells {h HC : Hp} {n0 N n a b ti : Nat} (w : World h n0) (sm : Small h n0) (ha : a < n0) (hb : b < n0) (hti : ti ≤ 140000) (hN : N ≤ 4) (c : SearchC h HC n0 N a b ti) (hn : n ≠ 0) (hnN : n ≤ N) :
    (¬ F_X5_end HC (nI n) < 1000000000 ∧ F_X5_tell HC n = (none, HC)) ∨ (F_X5_end HC (nI n) < 1000000000 ∧ ∃ T at' t d i j, F_X5_tell HC n = (some (xCN HC 3), T) ∧ ToldC h HC T n a b ti (F_X5_end HC (nI n)) at' t d i j ∧
      Way h n0 (Rc HC) (Ec HC) (ti / 1440 - 1) (ti / 1440 + 1) b n (F_X5_end HC (nI n)).toInt at' t d i j) := by
  have cn := c.mono hnN
  by_cases he : F_X5_end HC (nI n) < 1000000000
  · right
    have he' : (F_X5_end HC (nI n)).toInt < 1000000000 := by
      rw [Int32.lt_iff_toInt_lt, N9] at he
      exact he
    have eb := end_bnd w sm hb hti (by omega) cn hn (Nat.le_refl _)
    have lo := endC w sm hb hti cn hn (Nat.le_refl _) (by omega)
    have q : EndW h n0 (Ec HC n) b (F_X5_end HC (nI n)).toInt := by
      rcases lo with ⟨e, -⟩ | ⟨q, -⟩
      · omega
      · exact q
    obtain ⟨s, ls⟩ := LSt.ex hb (EndQ.alt.mpr q)
    have hE := hEcC w hti cn
    have hs1 : Ec HC n s < 1000000000 := by
      obtain ⟨l1, ⟨l2, l3⟩, -⟩ := ls
      have := hE n hn (Nat.le_refl _) s l1
      rcases toB_sm sm hb l1 with z | z
      · exact absurd z l2
      · omega
    obtain ⟨at', t, d, i, j, e1, e2⟩ := way_ex w sm hti cn n (Nat.le_refl _) s ls.1 (fun _ => hs1)
    have wy : Way h n0 (Rc HC) (Ec HC) (ti / 1440 - 1) (ti / 1440 + 1) b n (F_X5_end HC (nI n)).toInt at' t d i j := ⟨by rw [e1]; exact ls, e2⟩
    obtain ⟨T, t1, t2⟩ := tell_told w sm ha hb hti hn (by omega) cn (by omega) wy hE
    exact ⟨he, T, at', t, d, i, j, t1, t2, wy⟩
  · exact .inl ⟨he, tell_none he⟩
