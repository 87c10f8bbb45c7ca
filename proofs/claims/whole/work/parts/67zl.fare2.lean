/-! ===== own: the fare as the reference finds it ===== -/
theorem sub1_add (x : Int32) : x + (-1) = x - 1 := (Int32.sub_eq_add_neg x 1).symm
theorem nI_s1z : (nI 0 - 1 : Int32) < 0 := by decide
def CelM (H : Hp) (F : Nat → Nat) (k : Nat) : Prop := ∀ q, q < k → xAI H 64 0 q = nI (F q)
theorem tick_back {Y X0 H9 : Hp} {ba ce su fm ln F : Nat → Nat} {n k : Nat} {rec9 : Hp → Nat → (Int32 × Hp)} (hn4 : n ≤ 4) (fd : ∀ x, x < n → fm x < 3 ∧ ln x ≤ 5) (pb : ∀ f, f < 3 → ba f ≤ 10000 ∧ ce f ≤ 1000 ∧ su f ≤ 10000)
    (ym : ∀ x, x < n → xAI Y 43 0 (xAI Y 59 0 x).toNatClampNeg = nI (fm x) ∧ xAI Y 62 0 x - xAI Y 61 0 x = nI (ln x)) (yp : ∀ f, f < 3 → xAI Y 54 0 f = nI (ba f) ∧ xAI Y 55 0 f = nI (ce f) ∧ xAI Y 56 0 f = nI (su f))
    (q9 : FX [] [64] Y H9) (k1 : 1 ≤ k) (kn : k ≤ n) (hF : ∀ q, q < k → F q ≤ 200000) :
    ∀ (c fu : Nat) (X : Hp) (v : Nat), c ≤ k → c < fu → Sam fm c k → (c < k → fm c = fm (k - 1)) → FX [] [64] Y X → CelM X F k → xAI X 64 0 k = nI v → v ≤ 100000000 → LO 100000000 (fun a => ∃ i, c ≤ i ∧ i < k ∧ Sam fm i k ∧ a = ((F i + Tc ba ce su fm ln i k : Nat) : Int)) v →
      ∃ X' v', L_X9_fareOf_46 X0 H9 k rec9 (K_X9_fareOf_46 X0 H9 k rec9) fu X (nI (pfx ln k - pfx ln c)) (nI c - 1) = rec9 X' (k + 1) ∧ FX [] [64] Y X' ∧ CelM X' F k ∧ xAI X' 64 0 k = nI v' ∧ v' ≤ 100000000 ∧ LO 100000000 (fun a => ∃ i, i < k ∧ Sam fm i k ∧ a = ((F i + Tc ba ce su fm ln i k : Nat) : Int)) v' := by
  have eF : (xAI (sAI H9 64 0 ((nI k).toNatClampNeg) 100000000) 43 0 (xAI (sAI H9 64 0 ((nI k).toNatClampNeg) 100000000) 59 0 ((nI k) - 1).toNatClampNeg).toNatClampNeg) = nI (fm (k - 1)) := by
    obtain ⟨k', rfl⟩ : ∃ k', k = k' + 1 := ⟨k - 1, by omega⟩
    rw [nI_m1, nI_clamp (show k' < 2 ^ 31 by omega), ai_ne (by decide), ai_ne (by decide), q9.2.2 43 (by decide), q9.2.2 59 (by decide), (ym k' (by omega)).1, Nat.add_sub_cancel]
  intro c
  induction c with
  | zero =>
    intro fu X v hc hf hs hm qX cX e v8 l
    obtain ⟨fu, rfl⟩ : ∃ g, fu = g + 1 := ⟨fu - 1, by omega⟩
    refine ⟨X, v, ?_, qX, cX, e, v8, l.same (fun a => ⟨fun ⟨i, a1, a2, a3⟩ => ⟨i, by omega, a1, a2, a3⟩, fun ⟨i, _, a1, a2, a3⟩ => ⟨i, a1, a2, a3⟩⟩)⟩
    rw [L_X9_fareOf_46_s]
    unfold B_X9_fareOf_46
    rw [if_pos nI_s1z]
    rfl
  | succ c ih =>
    intro fu X v hc hf hs hm qX cX e v8 l
    obtain ⟨fu, rfl⟩ : ∃ g, fu = g + 1 := ⟨fu - 1, by omega⟩
    obtain ⟨y1, y2⟩ := ym c (by omega)
    obtain ⟨f1, f2⟩ := fd c (by omega)
    obtain ⟨g1, g2⟩ := fd (k - 1) (by omega)
    obtain ⟨p1, p2, p3⟩ := yp (fm (k - 1)) g1
    obtain ⟨b1, b2, b3⟩ := pb (fm (k - 1)) g1
    have mk := pfx_le (fun y hy => (fd y hy).2) k kn
    have mc := pfx_mono ln k hc
    have ps := pfx_s ln c
    rw [L_X9_fareOf_46_s, nI_m1]
    unfold B_X9_fareOf_46
    rw [if_neg (nI_pos (by omega)), eF, nI_clamp (show c < 2 ^ 31 by omega), nI_clamp (show k < 2 ^ 31 by omega), nI_clamp (show fm (k - 1) < 2 ^ 31 by omega), qX.2.2 43 (by decide), qX.2.2 59 (by decide), qX.2.2 62 (by decide), qX.2.2 61 (by decide), qX.2.2 54 (by decide), qX.2.2 55 (by decide), qX.2.2 56 (by decide), y1, y2, p1, p2, p3, cX c (by omega), e, nI_add, nI_add, show pfx ln k - pfx ln (c + 1) + ln c = pfx ln k - pfx ln c by omega, nI_mul, nI_add]
    by_cases w : fm c = fm (k - 1)
    · have s2 : Sam fm c k := fun m a b => by
        rcases Nat.lt_or_ge c m with z | z
        · have := hs m (by omega) b
          have := hm (by omega)
          omega
        · rw [show m = c by omega]
      have et : Tc ba ce su fm ln c k = TK ba ce su (fm (k - 1)) (pfx ln k - pfx ln c) := by unfold Tc; rw [w]
      have eS : (nI (F c + ba (fm (k - 1)) + ce (fm (k - 1)) * (pfx ln k - pfx ln c)) + (if nI (pfx ln k - pfx ln c) ≤ 3 then 0 else nI (su (fm (k - 1))) : Int32)) = nI (F c + Tc ba ce su fm ln c k) := by
        rw [et]
        unfold TK
        by_cases z : pfx ln k - pfx ln c ≤ 3
        · rw [if_pos z, if_pos (c := nI (pfx ln k - pfx ln c) ≤ (3 : Int32)) ((nI_leI (a := pfx ln k - pfx ln c) (b := 3) (by omega) (by decide)).mpr z), Int32.add_zero]
          congr 1
          omega
        · rw [if_neg z, if_neg (c := nI (pfx ln k - pfx ln c) ≤ (3 : Int32)) (fun u => z ((nI_leI (a := pfx ln k - pfx ln c) (b := 3) (by omega) (by decide)).mp u)), nI_add]
          congr 1
          omega
      have tl := Tc_le (ba := ba) (ce := ce) (su := su) fd pb hn4 (show c < k by omega) kn
      have hFc := hF c (by omega)
      rw [if_pos (by rw [w]), eS, min_nI2 (by omega) (by omega), sub1_add]
      refine ih fu (sAI X 64 0 k (nI (min v (F c + Tc ba ce su fm ln c k)))) (min v (F c + Tc ba ce su fm ln c k)) (by omega) (by omega) s2 (fun _ => w) (qX.trans (FX.sai (by decide))) (fun q hq => ?_) ai_eq (by omega) ?_
      · rw [ai_nj (by omega)]
        exact cX q hq
      · have e3 : ((min v (F c + Tc ba ce su fm ln c k) : Nat) : Int) = min (v : Int) ((F c + Tc ba ce su fm ln c k : Nat) : Int) := by omega
        rw [e3]
        refine LO.add l (by omega) (fun a => ?_) (fun a => ?_)
        · constructor
          · rintro ⟨i, a1, a2, a3, rfl⟩
            rcases Nat.lt_or_ge c i with z | z
            · exact .inl ⟨i, z, a2, a3, rfl⟩
            · obtain rfl : i = c := by omega
              exact .inr rfl
          · rintro (⟨i, a1, a2, a3, rfl⟩ | rfl)
            · exact ⟨i, by omega, a2, a3, rfl⟩
            · exact ⟨c, Nat.le_refl _, by omega, s2, rfl⟩
        · rintro ⟨i, a1, a2, a3, rfl⟩
          have := hF i a2
          have := Tc_le (ba := ba) (ce := ce) (su := su) fd pb hn4 a2 kn
          omega
    · rw [if_neg (fun z => w (nI_inj (by omega) (by omega) z))]
      refine ⟨X, v, rfl, qX, cX, e, v8, l.same (fun a => ⟨fun ⟨i, a1, a2, a3⟩ => ⟨i, ?_, a1, a2, a3⟩, fun ⟨i, _, a1, a2, a3⟩ => ⟨i, a1, a2, a3⟩⟩)⟩
      refine Nat.lt_of_not_le (fun z => w ?_)
      have u1 := a2 c z (by omega)
      have u2 := a2 (k - 1) (by omega) (by omega)
      omega
/-- the reference's fare -/
theorem fareM {Y : Hp} {ba ce su fm ln : Nat → Nat} {n : Nat} (hn4 : n ≤ 4) (fd : ∀ x, x < n → fm x < 3 ∧ ln x ≤ 5) (pb : ∀ f, f < 3 → ba f ≤ 10000 ∧ ce f ≤ 1000 ∧ su f ≤ 10000)
    (ym : ∀ x, x < n → xAI Y 43 0 (xAI Y 59 0 x).toNatClampNeg = nI (fm x) ∧ xAI Y 62 0 x - xAI Y 61 0 x = nI (ln x)) (yp : ∀ f, f < 3 → xAI Y 54 0 f = nI (ba f) ∧ xAI Y 55 0 f = nI (ce f) ∧ xAI Y 56 0 f = nI (su f)) (y21 : xFI Y 1021 0 = nI n) :
    ∃ X' F, F_X9_fareOf Y = (nI (F n), X') ∧ FX [] [64] Y X' ∧ F 0 = 0 ∧ (∀ k, 1 ≤ k → k ≤ n → LO 100000000 (QG ba ce su fm ln F n k) (F k)) := by
  have outer : ∀ (m k fu : Nat) (X : Hp) (F : Nat → Nat), k + m = n + 1 → 1 ≤ k → m < fu → FX [] [64] Y X → CelM X F k → F 0 = 0 → (∀ q, 1 ≤ q → q < k → LO 100000000 (QG ba ce su fm ln F n q) (F q)) →
      ∃ X' F', L_X9_fareOf_9 Y fu X k = (nI (F' n), X') ∧ FX [] [64] Y X' ∧ F' 0 = 0 ∧ (∀ q, 1 ≤ q → q ≤ n → LO 100000000 (QG ba ce su fm ln F' n q) (F' q)) := by
    intro m
    induction m with
    | zero =>
      intro k fu X F hk k1 hf qX cX f0 l
      obtain ⟨fu, rfl⟩ : ∃ g, fu = g + 1 := ⟨fu - 1, by omega⟩
      refine ⟨X, F, ?_, qX, f0, fun q a b => l q a (by omega)⟩
      rw [L_X9_fareOf_9_s]
      unfold B_X9_fareOf_9
      rw [qX.2.1 1021 (by simp), y21, if_pos ((nI_ltI (by omega) (by omega)).mpr (by omega)), nI_clamp (by omega), cX n (by omega)]
    | succ m ih =>
      intro k fu X F hk k1 hf qX cX f0 l
      obtain ⟨fu, rfl⟩ : ∃ g, fu = g + 1 := ⟨fu - 1, by omega⟩
      have kn : k ≤ n := by omega
      have bn : ∀ q, q < k → F q ≤ 40000 * q := by
        intro q
        induction q with
        | zero => intro _; omega
        | succ q ihq =>
          intro hq
          have i1 := ihq (by omega)
          have t1 := Tc_le (ba := ba) (ce := ce) (su := su) fd pb hn4 (show q < q + 1 by omega) (show q + 1 ≤ n by omega)
          have qq : QG ba ce su fm ln F n (q + 1) ((F q + Tc ba ce su fm ln q (q + 1) : Nat) : Int) := ⟨q, by omega, by omega, fun m a b => by rw [show m = q by omega], rfl⟩
          rcases l (q + 1) (by omega) hq with ⟨_, z⟩ | ⟨_, z⟩
          · exact absurd qq (z _)
          · have := z _ qq
            omega
      obtain ⟨X', v', e, q', c', e', v8, l'⟩ := tick_back (X0 := Y) (F := F) (rec9 := L_X9_fareOf_9 Y fu) hn4 fd pb ym yp qX k1 kn (fun q hq => by
        have := bn q hq
        omega) k ((((nI k) - 1).toInt + 1).toNat + 1) (sAI X 64 0 k 100000000) 100000000 (Nat.le_refl _) (by
        obtain ⟨k', rfl⟩ : ∃ k', k = k' + 1 := ⟨k - 1, by omega⟩
        rw [nI_m1, nI_toInt (by omega)]
        omega) (fun m a b => absurd a (by omega)) (fun z => absurd z (Nat.lt_irrefl _)) (qX.trans (FX.sai (by decide))) (fun q hq => by rw [ai_nj (by omega)]; exact cX q hq) ai_eq (Nat.le_refl _) (.inl ⟨rfl, fun a => by
        rintro ⟨i, a1, a2, _⟩
        omega⟩)
      rw [L_X9_fareOf_9_s]
      unfold B_X9_fareOf_9
      rw [qX.2.1 1021 (by simp), y21, if_neg (fun z => by
        have := (nI_ltI (by omega) (by omega)).mp z
        omega)]
      rw [Nat.sub_self] at e
      rw [nI_clamp (show k < 2 ^ 31 by omega)]
      have z0 : nI 0 = (0 : Int32) := rfl
      rw [z0] at e
      rw [e]
      obtain ⟨FF, ff1, ff2⟩ : ∃ FF : Nat → Nat, FF k = v' ∧ ∀ q, q ≠ k → FF q = F q := ⟨fun q => if q = k then v' else F q, if_pos rfl, fun q hq => if_neg hq⟩
      refine ih (k + 1) fu X' FF (by omega) (by omega) (by omega) q' (fun q hq => ?_) ((ff2 0 (by omega)).trans f0) (fun q a b => ?_)
      · by_cases w : q = k
        · rw [w, e', ff1]
        · rw [ff2 q w]
          exact c' q (by omega)
      · by_cases w : q = k
        · rw [w, ff1]
          refine l'.same (fun a => ?_)
          constructor
          · rintro ⟨i, a0, a1, a2, rfl⟩
            exact ⟨i, a1, a2, by rw [ff2 i (by omega)]⟩
          · rintro ⟨i, a1, a2, rfl⟩
            exact ⟨i, by omega, a1, a2, by rw [ff2 i (by omega)]⟩
        · rw [ff2 q w]
          refine (l q a (by omega)).same (fun a => ?_)
          constructor
          · rintro ⟨i, a0, a1, a2, rfl⟩
            exact ⟨i, a0, a1, a2, by rw [ff2 i (by omega)]⟩
          · rintro ⟨i, a0, a1, a2, rfl⟩
            exact ⟨i, a0, a1, a2, by rw [ff2 i (by omega)]⟩
  unfold F_X9_fareOf
  rw [z0c]
  refine outer n 1 _ _ (fun _ => 0) (by omega) (Nat.le_refl _) (by omega) (FX.sai (by decide)) (fun q hq => ?_) rfl (fun q a b => absurd a (by omega))
  obtain rfl : q = 0 := by omega
  exact ai_eq
