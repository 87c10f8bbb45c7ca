/-! ===== own: what the law's ways ask ===== -/
/-- ends are the same where only the trial's numbers differ -/
theorem ee_fx {h P : Hp} {n0 a b ti n : Nat} (q : WA h n0 a b ti) (q' : WA P n0 a b ti) (x : FX [701, 702, 703, 704] ss2 h P) (h1 : 1 ≤ n) (h4 : n ≤ 4) : EE P a b ti n = EE h a b ti n := by
  have c := q.sc (n := n) h4
  have c' := q'.sc (n := n) h4
  generalize hP : F_X5_seek P (nI a) (nI b) (nI ti) (nI n) = K at c'
  have eK : EE P a b ti n = F_X5_end K (nI n) := by unfold EE; rw [hP]
  obtain ⟨y, c3, c4, c5, c6, c7, c0, cs⟩ := id c'
  obtain ⟨G, hG⟩ : ∃ G : Hp, G = (fun f i => if f ∈ [701, 702, 703, 704] then xFI h f i else xFI K f i, K.2) := ⟨_, rfl⟩
  have gf : ∀ f i, xFI G f i = if f ∈ [701, 702, 703, 704] then xFI h f i else xFI K f i := fun f i => by rw [hG]; rfl
  have ga : xAI G = xAI K := by rw [hG]; rfl
  have gr : G.2 = K.2 := by rw [hG]
  have w := q.2.1
  have c'' : SearchC h G n0 n a b ti := by
    refine ⟨⟨⟨?_, ?_⟩, fun f hf i => ?_, fun s hs i j => ?_⟩, ?_, ?_, ?_, ?_, ?_, fun s hs => ?_, fun m hm s hs => ?_⟩
    · rw [gr]; exact (x.1.trans y.1).1
    · rw [gr]; exact (x.1.trans y.1).2
    · rw [gf]
      by_cases e : f ∈ [701, 702, 703, 704]
      · rw [if_pos e]
      · rw [if_neg e, y.2.1 f hf, x.2.1 f e]
    · rw [ga, y.2.2 s hs, x.2.2 s hs]
    · rw [gf, if_neg (by decide)]; exact c3
    · rw [gf, if_neg (by decide)]; exact c4
    · rw [gf, if_neg (by decide)]; exact c5
    · rw [gf, if_neg (by decide)]; exact c6
    · rw [gf, if_neg (by decide)]; exact c7
    · have e : Rc G = Rc K := by funext k s; unfold Rc; rw [ga]
      rw [e]
      exact (c0 s hs).same (fun v => (x.eR0 a ti s v).symm)
    · have e : Rc G = Rc K := by funext k s; unfold Rc; rw [ga]
      have e2 : Ec G = Ec K := by funext k s; unfold Ec; rw [ga]
      rw [e, e2]
      obtain ⟨l1, l2⟩ := cs m hm s hs
      exact ⟨l1.same (fun v => (x.eCand w (by decide) _ _ _ s v).symm), l2.same (fun v => (x.eRdy n0 _ s v).symm)⟩
  have e1 := end_uniq w q.2.2.1 q.2.2.2.1 q.2.2.2.2.1 q.2.2.2.2.2.2 h4 h4 c c'' (k := n) (by omega) (Nat.le_refl _) (Nat.le_refl _)
  have l1 := endC w q.2.2.1 q.2.2.2.2.1 q.2.2.2.2.2.2 c'' (k := n) (by omega) (Nat.le_refl _) h4
  have l2 := endC q'.2.1 q'.2.2.1 q.2.2.2.2.1 q.2.2.2.2.2.2 c' (k := n) (by omega) (Nat.le_refl _) h4
  have e2 : Ec G = Ec K := by funext k s; unfold Ec; rw [ga]
  rw [e2] at l1
  have l3 := l2.same (Q' := EndW h n0 (Ec K n) b) (fun v => by
    have e : ∀ s, toB P b s = toB h b s := fun s => by
      unfold toB
      rw [x.2.2 23 (by decide)]
    unfold EndW
    simp only [e])
  have e3 := l1.uniq l3
  rw [eK]
  show _ = F_X5_end (F_X5_seek h (nI a) (nI b) (nI ti) (nI n)) (nI n)
  rw [← e1]
  exact (Int32.toInt_inj.mp e3).symm
theorem v_anew {h : Hp} {D : Nat → Int32} {n0 a b ti k : Nat} (I : IV h D) (q : WA h n0 a b ti) (h1 : 1 ≤ k) (h2 : k ≤ 2) (he : EE h a b ti k < 1000000000) : ∃ P, (F_X8_arrivalAnew h (nI a) (nI b) (nI ti) (nI k)).2 = P ∧ IV P D ∧ V_arrivalAnew h (nI a) (nI b) (nI ti) (nI k) = EE h a b ti k ∧ WA P n0 a b ti ∧ EE P a b ti k = EE h a b ti k := by
  have hs0 := q.1
  have c := q.sc (n := k) (by omega)
  obtain ⟨e, x⟩ := tryC I.R hs0 q.2.1 q.2.2.2.1 q.2.2.2.2.1 q.2.2.2.2.2.2 h1 h2 (by omega) (Nat.le_refl _) c
  have eF : F_X8_arrivalAnew h (nI a) (nI b) (nI ti) (nI k) = (.inl (some (.inl (.int (F_X8_timeOrNone (F_X6_tryAll h (nI a) (nI b) (nI ti) (nI k)).1)))), (F_X6_tryAll h (nI a) (nI b) (nI ti) (nI k)).2) := by
    unfold F_X8_arrivalAnew
    rw [if_pos q.ok, if_pos (show okR (nI k) 1 2 from okR_mk (lo := 1) (hi := 2) h1 h2 (by decide))]
  have J : IV (F_X8_arrivalAnew h (nI a) (nI b) (nI ti) (nI k)).2 D := iv_anew I hs0 q.2.2.2.1 q.2.2.2.2.1 q.2.2.2.2.2.1 q.2.2.2.2.2.2 h1 h2
  have e1 : (F_X6_tryAll h (nI a) (nI b) (nI ti) (nI k)).1 = EE h a b ti k := Int32.toInt_inj.mp e
  have eV : V_arrivalAnew h (nI a) (nI b) (nI ti) (nI k) = EE h a b ti k := by
    unfold V_arrivalAnew
    rw [eF, e1, ton_some he]
    rfl
  rw [eF] at J ⊢
  dsimp only at J ⊢
  have h4 : xFI (F_X6_tryAll h (nI a) (nI b) (nI ti) (nI k)).2 403 0 = nI n0 := (x.2.1 403 (by decide) 0).trans hs0.2.1
  have q' : WA (F_X6_tryAll h (nI a) (nI b) (nI ti) (nI k)).2 n0 a b ti := J.wa h4 hs0.1 q.2.2.2.1 q.2.2.2.2.1 q.2.2.2.2.2.1 q.2.2.2.2.2.2
  exact ⟨_, rfl, J, eV, q', ee_fx q q' x h1 (by omega)⟩
/-- later, on the same day -/
theorem v_later {h : Hp} {n0 a b ti n : Nat} (q : WA h n0 a b ti) (h1 : 1 ≤ n) (h4 : n ≤ 4) (ht : ti + 1 ≤ 140000) : (F_X8_arrival h (nI a) (nI b) (nI (ti + 1)) (nI n)).1 = .inl (some (.inl (.int (V_arrival h (nI a) (nI b) (nI (ti + 1)) (nI n))))) ∧
    ((ti + 1) % 1440 ≠ 0 → (V_arrival h (nI a) (nI b) (nI (ti + 1)) (nI n)).toInt = -1 ∨ (EE h a b ti n).toInt ≤ (V_arrival h (nI a) (nI b) (nI (ti + 1)) (nI n)).toInt) := by
  have q1 : WA h n0 a b (ti + 1) := ⟨q.1, q.2.1, q.2.2.1, q.2.2.2.1, q.2.2.2.2.1, q.2.2.2.2.2.1, ht⟩
  constructor
  · have eF : (F_X8_arrival h (nI a) (nI b) (nI (ti + 1)) (nI n)).1 = .inl (some (.inl (.int (F_X8_timeOrNone (F_X5_end (F_X5_seek h (nI a) (nI b) (nI (ti + 1)) (nI n)) (nI n)))))) := by
      unfold F_X8_arrival
      rw [if_pos q1.ok, if_pos (okn_mk h1 h4)]
    unfold V_arrival
    rw [eF]
    rfl
  · intro hm
    by_cases he : EE h a b (ti + 1) n < 1000000000
    · right
      rw [(v_some q1 h1 h4 he).1]
      exact end_mono q.2.1 q.2.2.1 q.2.2.2.1 q.2.2.2.2.1 (Nat.le_succ ti) (by omega) ht h4 h4 (q.sc (n := n) h4) (q1.sc (n := n) h4) (by omega) (Nat.le_refl _) (Nat.le_refl _)
    · left
      rw [(v_none q1 h1 h4 he).1]
      decide
