/-! ===== own: fares (out of whole) ===== -/
theorem ai_eq {h : Hp} {s i j : Nat} {v : Int32} : xAI (sAI h s i j v) s i j = v := by rw [ai_ai, if_pos ⟨rfl, rfl, rfl⟩]
theorem ai_nj {h : Hp} {s i j : Nat} {v : Int32} {s' i' j' : Nat} (hj : ¬ j' = j) : xAI (sAI h s i j v) s' i' j' = xAI h s' i' j' := by rw [ai_ai, if_neg (fun z => hj z.2.2)]
def pfx (ln : Nat → Nat) : Nat → Nat
  | 0 => 0
  | k + 1 => pfx ln k + ln k
theorem pfx_s (ln : Nat → Nat) (k : Nat) : pfx ln (k + 1) = pfx ln k + ln k := rfl
theorem pfx_le {ln : Nat → Nat} {n : Nat} (h : ∀ x, x < n → ln x ≤ 5) : ∀ k, k ≤ n → pfx ln k ≤ 5 * k := by
  intro k
  induction k with
  | zero => intro _; exact Nat.le_refl 0
  | succ k ih =>
    intro hk
    have := ih (by omega)
    have := h k (by omega)
    rw [pfx_s]
    omega
theorem pfx_mono (ln : Nat → Nat) {a : Nat} : ∀ b, a ≤ b → pfx ln a ≤ pfx ln b := by
  intro b
  induction b with
  | zero => intro h; obtain rfl : a = 0 := by omega
            exact Nat.le_refl _
  | succ b ih =>
    intro h
    rcases Nat.lt_or_ge a (b + 1) with q | q
    · have := ih (by omega)
      rw [pfx_s]
      omega
    · obtain rfl : a = b + 1 := by omega
      exact Nat.le_refl _
def TK (ba ce su : Nat → Nat) (f s : Nat) : Nat := ba f + ce f * s + (if s ≤ 3 then 0 else su f)
theorem TK_le {ba ce su : Nat → Nat} {f s : Nat} (hb : ba f ≤ 10000 ∧ ce f ≤ 1000 ∧ su f ≤ 10000) (hs : s ≤ 20) : TK ba ce su f s ≤ 40000 := by
  unfold TK
  have h1 : ce f * s ≤ 1000 * 20 := Nat.mul_le_mul hb.2.1 hs
  split <;> omega
def Sam (fm : Nat → Nat) (i k : Nat) : Prop := ∀ m, i ≤ m → m < k → fm m = fm i
def Tc (ba ce su fm ln : Nat → Nat) (i k : Nat) : Nat := TK ba ce su (fm i) (pfx ln k - pfx ln i)
def QG (ba ce su fm ln : Nat → Nat) (G : Nat → Nat) (idx k : Nat) (v : Int) : Prop := ∃ i, i < idx ∧ i < k ∧ Sam fm i k ∧ v = ((G i + Tc ba ce su fm ln i k : Nat) : Int)
theorem Tc_le {ba ce su fm ln : Nat → Nat} {n : Nat} (fd : ∀ x, x < n → fm x < 3 ∧ ln x ≤ 5) (pb : ∀ f, f < 3 → ba f ≤ 10000 ∧ ce f ≤ 1000 ∧ su f ≤ 10000) (hn4 : n ≤ 4) {i k : Nat} (hi : i < k) (hk : k ≤ n) : Tc ba ce su fm ln i k ≤ 40000 := by
  have := pfx_le (fun x hx => (fd x hx).2) k hk
  exact TK_le (pb _ (fd i (by omega)).1) (by omega)
theorem QG_bnd {ba ce su fm ln G : Nat → Nat} {n idx : Nat} {N : Int} (fd : ∀ x, x < n → fm x < 3 ∧ ln x ≤ 5) (pb : ∀ f, f < 3 → ba f ≤ 10000 ∧ ce f ≤ 1000 ∧ su f ≤ 10000) (hn4 : n ≤ 4) (g0 : G 0 = 0) (l : ∀ k, 1 ≤ k → k ≤ n → LO N (QG ba ce su fm ln G idx k) (G k)) : ∀ k, k ≤ idx → k ≤ n → G k ≤ 40000 * k := by
  intro k
  induction k with
  | zero => intro _ _; omega
  | succ k ih =>
    intro h1 h2
    have i1 := ih (by omega) (by omega)
    have t1 := Tc_le fd pb hn4 (show k < k + 1 by omega) h2
    have q : QG ba ce su fm ln G idx (k + 1) ((G k + Tc ba ce su fm ln k (k + 1) : Nat) : Int) := ⟨k, by omega, by omega, fun m a b => by rw [show m = k by omega], rfl⟩
    rcases l (k + 1) (by omega) h2 with ⟨_, z⟩ | ⟨_, z⟩
    · exact absurd q (z _)
    · have := z _ q
      omega
theorem min_nI {a b : Nat} (ha : a < 2147483648) (hb : b < 2147483648) : (if nI a < nI b then nI a else nI b) = nI (min b a) := by
  by_cases c : a < b
  · rw [if_pos ((nI_ltI ha hb).mpr c), Nat.min_eq_right (by omega)]
  · rw [if_neg (fun z => c ((nI_ltI ha hb).mp z)), Nat.min_eq_left (by omega)]
theorem min_nI2 {a b : Nat} (ha : a < 2147483648) (hb : b < 2147483648) : (if nI b ≤ nI a then nI b else nI a) = nI (min b a) := by
  by_cases c : b ≤ a
  · rw [if_pos ((nI_leI hb ha).mpr c), Nat.min_eq_left c]
  · rw [if_neg (fun z => c ((nI_leI hb ha).mp z)), Nat.min_eq_right (by omega)]
theorem ticket_at {Z X : Hp} {ba ce su : Nat → Nat} (zp : ∀ f, f < 3 → xAI Z 24 0 f = nI (ba f) ∧ xAI Z 25 0 f = nI (ce f) ∧ xAI Z 26 0 f = nI (su f)) (q : FX [] [27] Z X) {f s : Nat} (hf : f < 3) (hs : s ≤ 20) : F_X1_ticket X (nI f) (nI s) = nI (TK ba ce su f s) := by
  obtain ⟨e1, e2, e3⟩ := zp f hf
  unfold F_X1_ticket TK
  rw [at_in X (n := 3) (by decide) rfl hf (by decide), at_in X (n := 3) (by decide) rfl hf (by decide), at_in X (n := 3) (by decide) rfl hf (by decide), q.2.2 24 (by decide), q.2.2 25 (by decide), q.2.2 26 (by decide), e1, e2, e3, nI_mul, nI_add, nI_add]
  by_cases c : s ≤ 3
  · rw [if_pos c, if_pos (c := nI s ≤ (3 : Int32)) ((nI_leI (a := s) (b := 3) (by omega) (by decide)).mpr c), Nat.add_zero]
  · rw [if_neg c, if_neg (c := nI s ≤ (3 : Int32)) (fun z => c ((nI_leI (a := s) (b := 3) (by omega) (by decide)).mp z))]
def Cell (X : Hp) (G : Nat → Nat) : Prop := ∀ q, q < 5 → xAI X 27 0 q = nI (G q)
theorem tick_inner {Z HH : Hp} {ba ce su fm ln : Nat → Nat} {n idx r : Nat} {f : Nat → Nat} {RR : List Nat} (hn4 : n ≤ 4) (fd : ∀ x, x < n → fm x < 3 ∧ ln x ≤ 5) (pb : ∀ f, f < 3 → ba f ≤ 10000 ∧ ce f ≤ 1000 ∧ su f ≤ 10000)
    (zc : ∀ x, x < n → xFI Z 802 (tr Z (f x)) = nI (fm x) ∧ xFI Z 503 (f x) - xFI Z 502 (f x) = nI (ln x)) (zp : ∀ f, f < 3 → xAI Z 24 0 f = nI (ba f) ∧ xAI Z 25 0 f = nI (ce f) ∧ xAI Z 26 0 f = nI (su f))
    (qH : FX [] [27] Z HH) (hidx : idx < n) (hr : r = f idx) {G : Nat → Nat} (hG : ∀ q, q < 5 → G q ≤ 1000000000) :
    ∀ (m x : Nat) (X : Hp) (G' : Nat → Nat), x + m = n → idx ≤ x → Sam fm idx x → FX [] [27] Z X → Cell X G' → (∀ q, q < 5 → G' q = if idx < q ∧ q ≤ x then min (G q) (G idx + Tc ba ce su fm ln idx q) else G q) →
      ∃ X' G'', L_X1_ticketsFrom_17 HH r RR (nI idx) ((List.range' x m).map f) X (nI (pfx ln x - pfx ln idx)) (nI x) = X' ∧ FX [] [27] Z X' ∧ Cell X' G'' ∧ (∀ q, q < 5 → idx < q → q ≤ n → Sam fm idx q → G'' q = min (G q) (G idx + Tc ba ce su fm ln idx q)) ∧ (∀ q, q < 5 → ¬ (idx < q ∧ q ≤ n ∧ Sam fm idx q) → G'' q = G q) := by
  subst hr
  have etr : ∀ x, tr HH x = tr Z x := fun x => by unfold tr xFR; rw [qH.1.1]
  have done : ∀ (x : Nat) (X : Hp) (G' : Nat → Nat), x ≤ n → Sam fm idx x → (x = n ∨ ¬ Sam fm idx (x + 1)) → FX [] [27] Z X → Cell X G' → (∀ q, q < 5 → G' q = if idx < q ∧ q ≤ x then min (G q) (G idx + Tc ba ce su fm ln idx q) else G q) →
      (∀ q, q < 5 → idx < q → q ≤ n → Sam fm idx q → G' q = min (G q) (G idx + Tc ba ce su fm ln idx q)) ∧ (∀ q, q < 5 → ¬ (idx < q ∧ q ≤ n ∧ Sam fm idx q) → G' q = G q) := by
    intro x X G' hx hs he _ _ hG'
    refine ⟨fun q hq h1 h2 h3 => ?_, fun q hq h => ?_⟩
    · rw [hG' q hq, if_pos]
      refine ⟨h1, ?_⟩
      rcases he with rfl | he
      · exact h2
      · refine Nat.le_of_not_lt (fun z => he (fun m a b => h3 m a (by omega)))
    · rw [hG' q hq, if_neg (fun z => h ⟨z.1, by omega, fun m a b => hs m a (by omega)⟩)]
  intro m
  induction m with
  | zero =>
    intro x X G' hx hi hs qX cX hG'
    obtain ⟨d1, d2⟩ := done x X G' (by omega) hs (.inl (by omega)) qX cX hG'
    exact ⟨X, G', rfl, qX, cX, d1, d2⟩
  | succ m ih =>
    intro x X G' hx hi hs qX cX hG'
    have hxn : x < n := by omega
    obtain ⟨z1, z2⟩ := zc x hxn
    obtain ⟨y1, y2⟩ := zc idx hidx
    obtain ⟨f1, f2⟩ := fd x hxn
    obtain ⟨g1, g2⟩ := fd idx hidx
    have mx := pfx_le (fun y hy => (fd y hy).2) (x + 1) (by omega)
    have mi := pfx_mono ln x hi
    have ps := pfx_s ln x
    have el : (List.range' x (m + 1)).map f = f x :: (List.range' (x + 1) m).map f := rfl
    rw [el, L_X1_ticketsFrom_17_s]
    unfold B_X1_ticketsFrom_17 F_X4_length
    rw [etr, etr, qX.2.1 802 (by simp), qH.2.1 802 (by simp), z1, y1, qX.2.1 503 (by simp), qX.2.1 502 (by simp), z2, nI_add, nI_1, show pfx ln x - pfx ln idx + ln x = pfx ln (x + 1) - pfx ln idx by omega]
    by_cases c : fm x = fm idx
    · have s2 : Sam fm idx (x + 1) := fun k a b => by
        rcases Nat.lt_or_ge k x with w | w
        · exact hs k a w
        · rw [show k = x by omega, c]
      have tl : Tc ba ce su fm ln idx (x + 1) ≤ 40000 := Tc_le fd pb hn4 (by omega) (by omega)
      have e1 : G' (x + 1) = G (x + 1) := by rw [hG' (x + 1) (by omega), if_neg (by omega)]
      have e2 : G' idx = G idx := by rw [hG' idx (by omega), if_neg (by omega)]
      have b1 := hG (x + 1) (by omega)
      have b2 := hG idx (by omega)
      rw [if_pos (by rw [c]), ticket_at zp qX g1 (by omega), at_in X (n := 5) (by decide) rfl (show idx < 5 by omega) (by decide), at_in X (n := 5) (by decide) rfl (show x + 1 < 5 by omega) (by decide), cX idx (by omega), cX (x + 1) (by omega), e1, e2, nI_add, put_in X (n := 5) (by decide) rfl (show x + 1 < 5 by omega) (by decide)]
      have et : TK ba ce su (fm idx) (pfx ln (x + 1) - pfx ln idx) = Tc ba ce su fm ln idx (x + 1) := rfl
      rw [et, min_nI (by omega) (by omega)]
      refine ih (x + 1) (sAI X 27 0 (x + 1) (nI (min (G (x + 1)) (G idx + Tc ba ce su fm ln idx (x + 1))))) (fun q => if q = x + 1 then min (G (x + 1)) (G idx + Tc ba ce su fm ln idx (x + 1)) else G' q) (by omega) (by omega) s2 (qX.trans (FX.sai (by decide))) (fun q hq => ?_) (fun q hq => ?_)
      · by_cases w : q = x + 1
        · subst w
          rw [ai_eq]
          simp only [if_pos]
        · rw [ai_nj w, cX q hq]
          simp only [if_neg w]
      · by_cases w : q = x + 1
        · subst w
          simp only [if_pos]
          rw [if_pos ⟨by omega, by omega⟩]
        · simp only [if_neg w]
          rw [hG' q hq]
          by_cases v : idx < q ∧ q ≤ x
          · rw [if_pos v, if_pos ⟨v.1, by omega⟩]
          · rw [if_neg v, if_neg (by omega)]
    · rw [if_neg (fun z => c (nI_inj (by omega) (by omega) z))]
      obtain ⟨d1, d2⟩ := done x X G' (by omega) hs (.inr (fun z => c (z x hi (by omega)))) qX cX hG'
      exact ⟨X, G', rfl, qX, cX, d1, d2⟩
theorem fareC {Z : Hp} {ba ce su fm ln : Nat → Nat} {n jj : Nat} {f : Nat → Nat} (hn4 : n ≤ 4) (fd : ∀ x, x < n → fm x < 3 ∧ ln x ≤ 5) (pb : ∀ f, f < 3 → ba f ≤ 10000 ∧ ce f ≤ 1000 ∧ su f ≤ 10000)
    (zc : ∀ x, x < n → xFI Z 802 (tr Z (f x)) = nI (fm x) ∧ xFI Z 503 (f x) - xFI Z 502 (f x) = nI (ln x)) (zp : ∀ f, f < 3 → xAI Z 24 0 f = nI (ba f) ∧ xAI Z 25 0 f = nI (ce f) ∧ xAI Z 26 0 f = nI (su f)) :
    ∃ X' G, F_X1_fareOf Z jj ((List.range' 0 n).map f) = (nI (G n), X') ∧ FX [] [27] Z X' ∧ G 0 = 0 ∧ (∀ k, 1 ≤ k → k ≤ n → LO 1000000000 (QG ba ce su fm ln G n k) (G k)) := by
  have outer : ∀ (m idx : Nat) (X : Hp) (G : Nat → Nat) (RR : List Nat), idx + m = n → FX [] [27] Z X → Cell X G → G 0 = 0 → (∀ q, q < 5 → G q ≤ 1000000000) → (∀ k, 1 ≤ k → k ≤ n → LO 1000000000 (QG ba ce su fm ln G idx k) (G k)) →
      ∃ X' G', L_X1_fareOf_25 Z jj RR (K_X1_fareOf_25 Z jj RR) ((List.range' idx m).map f) X (nI idx) = (nI (G' n), X') ∧ FX [] [27] Z X' ∧ G' 0 = 0 ∧ (∀ k, 1 ≤ k → k ≤ n → LO 1000000000 (QG ba ce su fm ln G' n k) (G' k)) := by
    intro m
    induction m with
    | zero =>
      intro idx X G RR hi qX cX g0 hG l
      obtain rfl : idx = n := by omega
      refine ⟨X, G, ?_, qX, g0, l⟩
      show K_X1_fareOf_25 Z jj RR X (nI idx) = _
      unfold K_X1_fareOf_25
      rw [at_in X (n := 5) (by decide) rfl (show idx < 5 by omega) (by decide), cX idx (by omega)]
    | succ m ih =>
      intro idx X G RR hi qX cX g0 hG l
      have hidx : idx < n := by omega
      obtain ⟨X', G'', e, qX', cX', u1, u2⟩ := tick_inner (RR := (List.range' (idx + 1) m).map f) (r := f idx) hn4 fd pb zc zp qX hidx rfl hG (m + 1) idx X G hi (Nat.le_refl _) (fun k a b => absurd a (by omega)) qX cX (fun q hq => by rw [if_neg (by omega)])
      have e' : F_X1_ticketsFrom X (f idx) ((List.range' (idx + 1) m).map f) (nI idx) = X' := by
        unfold F_X1_ticketsFrom
        rw [Nat.sub_self] at e
        exact e
      have el : (List.range' idx (m + 1)).map f = f idx :: (List.range' (idx + 1) m).map f := rfl
      rw [el, L_X1_fareOf_25_s]
      unfold B_X1_fareOf_25
      rw [e', nI_1]
      have bn := QG_bnd fd pb hn4 g0 l
      have same : ∀ q, q ≤ idx → G'' q = G q := fun q hq => u2 q (by omega) (by omega)
      refine ih (idx + 1) X' G'' RR (by omega) qX' cX' (by rw [same 0 (by omega)]; exact g0) (fun q hq => ?_) (fun k k1 kn => ?_)
      · by_cases c : idx < q ∧ q ≤ n ∧ Sam fm idx q
        · rw [u1 q hq c.1 c.2.1 c.2.2]
          have := hG q hq
          omega
        · rw [u2 q hq c]
          exact hG q hq
      · have lk := l k k1 kn
        by_cases c : idx < k ∧ k ≤ n ∧ Sam fm idx k
        · rw [u1 k (by omega) c.1 c.2.1 c.2.2]
          have b0 := bn idx (by omega) (by omega)
          have t0 := Tc_le fd pb hn4 c.1 kn
          have := LO.add (x := ((G idx + Tc ba ce su fm ln idx k : Nat) : Int)) (Q' := QG ba ce su fm ln G'' (idx + 1) k) lk (by omega) (fun v => by
            constructor
            · rintro ⟨i, a1, a2, a3, rfl⟩
              rcases Nat.lt_or_ge i idx with w | w
              · exact .inl ⟨i, w, a2, a3, by rw [same i (by omega)]⟩
              · obtain rfl : i = idx := by omega
                exact .inr (by rw [same i (by omega)])
            · rintro (⟨i, a1, a2, a3, rfl⟩ | rfl)
              · exact ⟨i, by omega, a2, a3, by rw [same i (by omega)]⟩
              · exact ⟨idx, by omega, c.1, c.2.2, by rw [same idx (by omega)]⟩) (fun v => by
            rintro ⟨i, a1, a2, a3, rfl⟩
            have := bn i (by omega) (by omega)
            have := Tc_le fd pb hn4 a2 kn
            omega)
          have e3 : ((min (G k) (G idx + Tc ba ce su fm ln idx k) : Nat) : Int) = min (G k : Int) ((G idx + Tc ba ce su fm ln idx k : Nat) : Int) := by omega
          rw [e3]
          exact this
        · rw [u2 k (by omega) c]
          refine lk.same (fun v => ?_)
          constructor
          · rintro ⟨i, a1, a2, a3, rfl⟩
            rcases Nat.lt_or_ge i idx with w | w
            · exact ⟨i, w, a2, a3, by rw [same i (by omega)]⟩
            · obtain rfl : i = idx := by omega
              exact absurd ⟨a2, kn, a3⟩ c
          · rintro ⟨i, a1, a2, a3, rfl⟩
            exact ⟨i, by omega, a2, a3, by rw [same i (by omega)]⟩
  unfold F_X1_fareOf
  refine outer n 0 _ (fun q => if q = 0 then 0 else 1000000000) _ (by omega) ((FX.fillx (by decide)).trans (FX.putx (by decide))) (fun q hq => ?_) rfl (fun q hq => ?_) (fun k k1 kn => ?_)
  · rw [show (0 : Int32) = nI 0 from rfl, put_in _ (n := 5) (by decide) rfl (by decide) (by decide)]
    by_cases c : q = 0
    · subst c
      rw [ai_eq]
      rfl
    · rw [ai_nj c, ai_fill, if_pos ⟨rfl, rfl, by rw [ln_at _ (by decide)]; exact hq⟩]
      show _ = nI (if q = 0 then 0 else 1000000000)
      rw [if_neg c]
      rfl
  · show (if q = 0 then 0 else 1000000000) ≤ 1000000000
    split <;> omega
  · show LO _ _ (((if k = 0 then 0 else 1000000000 : Nat)) : Int)
    rw [if_neg (by omega)]
    exact .inl ⟨rfl, fun v => by
      rintro ⟨i, a, _⟩
      omega⟩
