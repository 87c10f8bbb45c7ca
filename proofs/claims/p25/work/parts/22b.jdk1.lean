/-! ===== own: the JDK's lists: size, get; a row filled ===== -/
section JDK1
variable {g : GT} {M : MT} {d uc us pc : Nat} {L : List (Nat × AV)} {st : List AV} {h : Hp} {Φ : Rs → Hp → Prop}
theorem jw_lay : ∀ w ∈ u_ws RJx4a65c TJx4a65c 3, w ∈ lw_tbl ∧ goodWord w = true := by
  intro w hw
  obtain ⟨k, hk, rfl⟩ := List.mem_map.mp hw
  have h3 : k < 3 := List.mem_range.mp hk
  rcases (show k = 0 ∨ k = 1 ∨ k = 2 by omega) with rfl | rfl | rfl
  · exact ⟨(by decide +kernel), rfl⟩
  · exact ⟨(by decide +kernel), rfl⟩
  · exact ⟨(by decide +kernel), rfl⟩
theorem jw_9 : Cond.fieldLink RJx4a65c 9 (TJx4a65c 1).1 (TJx4a65c 1).2.1 (TJx4a65c 1).2.2.1 ∈ lw_tbl := (by decide +kernel)
theorem jw_48 : Cond.fieldLink RJx4a65c 48 (TJx4a65c 2).1 (TJx4a65c 2).2.1 (TJx4a65c 2).2.2.1 ∈ lw_tbl := (by decide +kernel)
theorem cy_kd6 {s : Nat} (hs : cy_kd s = 6) : s = 11 ∨ s = 12 := by
  unfold cy_kd at hs
  repeat' split at hs
  all_goals first | omega | (cases hs)
/-- a list's size read -/
theorem jx_size {s : Nat} (hs : cy_kd s = 6) (hO : mO M = RJx4a65c) (hd : decode (mC M) pc = .ok (.getfield 48, 3))
    (kk : WP g M d uc us (pc + 3) L (.inl (.int (nI (xLS h s))) :: st) h Φ) : WP g M d uc us pc L (.inr (s, some 0) :: st) h Φ := by
  intro hg p e R s0 m args below meth c H locs cells slots ls ad ad0 cn0 hE hd9 hdl hc hs9 hr hx hR hB hS hl hwL hwS
  have hi : 0 < xCN h s := (cy_top hwS).2.2 0 rfl
  have hW := hE.2.2.2.2.2.2.1
  exact va_get (k := 2) (C := RJx4a65c) (T := TJx4a65c) (N := 3) (ci := 0) hE.1 hE.2.1 (cy_words hg hW jw_lay) (fun w hw => hw) hE.2.2.2.2.1 (cy_K hg hW) (cy_P1 (cy_lst hR hi hs)) 0 rfl rfl (by decide) (cy_wd hg hW (by rw [hO]; exact jw_48) (by rfl)) (fun _ h => h)
    (v := .int (nI (xLS h s))) rfl hd
    (kk hg p e R s0 m args below meth c H locs cells slots ls ad ad0 cn0 hE hd9 hdl hc hs9 hr hx hR hB hS hl hwL (cy_push cy_num (cy_pop hwS)))
theorem jd_size {s : Nat} (hd : 1 ≤ d) (hs : cy_kd s = 6) : Ctr g M_Jx4a65c_size_8abf5 d 0 0 [.inr (s, some 0)] h (cy_det (.inl (some (.inl (.int (nI (xLS h s)))))) h) := by
  refine cy_body rfl rfl (by decide) (Nat.le_of_ble_eq_true rfl) ?_
  refine wp_run [(.aload_n 0, 1)] (pc' := 1) (L' := [(0, .inr (s, some 0))]) (st' := [.inr (s, some 0)]) ⟨dJx4a65c_size_8abf5_0, trivial⟩ rfl rfl ?_
  refine jx_size (M := M_Jx4a65c_size_8abf5) hs rfl dJx4a65c_size_8abf5_1 ?_
  exact wx_iret rfl rfl dJx4a65c_size_8abf5_4 ⟨rfl, rfl⟩
/-- an element read: elementData[i] -/
theorem jx_elem {s i pc2 : Nat} {x : Int32} (hs : cy_kd s = 6) (hi : i < xLS h s) (hx9 : x = nI i) (hO : mO M = RJx4a65c) (h1 : lkL L 1 = some (.inl (.int x))) (hp : pc + 5 = pc2) (hd : decode (mC M) pc = .ok (.getfield 9, 3)) (hd3 : decode (mC M) (pc + 3) = .ok (.iload_n 1, 1)) (hd4 : decode (mC M) (pc + 4) = .ok (.aaload, 1))
    (kk : WP g M d uc us pc2 L (.inr (cy_es (s + 2), some (xLE h s i)) :: st) h Φ) : WP g M d uc us pc L (.inr (s, some 0) :: st) h Φ := by
  subst hp
  intro hg p e R s0 m args below meth c H locs cells slots ls ad ad0 cn0 hE hd9 hdl hc hs9 hr hx hR hB hS hl hwL hwS
  have hi0 : 0 < xCN h s := (cy_top hwS).2.2 0 rfl
  have hW := hE.2.2.2.2.2.2.1
  have hK := cy_K hg hW
  have hs' := cy_kd6 hs
  have h6 : xCN h (s + 2) = 1 ∧ xLS h s ≤ xLS h (s + 2) ∧ 2 ≤ xLS h (s + 2) ∧ xLS h (s + 2) ≤ 1000 := by
    rcases hR.2.2.2.2.2.1 s hs' hi0 with ⟨q, -⟩ | q
    · omega
    · exact q
  have hrow : va_at (cy_D g) vwCl (ad (s + 2) 0, .inl (cy_cA g 4, xLS h (s + 2), .inr (.inr (.inr (.inr (fun j => if j < xLS h s then some (ad (cy_es (s + 2)) (xLE h s j)) else none)))))) H := by
    have h1 := hR.1 (s + 2) 0 (by omega)
    unfold cy_ok at h1
    rcases hs' with rfl | rfl
    · rw [if_neg (by decide)] at h1
      exact h1
    · rw [if_neg (by decide)] at h1
      exact h1
  have hel : xLE h s i < xCN h (cy_es (s + 2)) := hR.2.2.2.2.1 s i hs' hi
  have hcl : x.toNatClampNeg = i := by rw [hx9]; exact nI_clamp (by omega)
  refine va_get (k := 1) (C := RJx4a65c) (T := TJx4a65c) (N := 3) (ci := 0) hE.1 hE.2.1 (cy_words hg hW jw_lay) (fun w hw => hw) hE.2.2.2.2.1 hK (cy_P1 (cy_lst hR hi0 hs)) 0 rfl rfl (by decide) (cy_wd hg hW (by rw [hO]; exact jw_9) (by rfl)) (fun _ h => h)
    (v := .ref (ad (s + 2) 0)) (by show some (Value.ref _) = _; rw [if_neg (by omega)]) hd ?_
  refine lv_iload_n hE.1 hE.2.1 hd3 rfl (cy_lk hl h1) ?_
  refine va_aldq hE.1 hE.2.1 hK (cy_P1 hrow) 0 4 rfl rfl (by rw [hx9]; exact vp_in_nI (by omega) (by omega)) hd4 ?_
  have K := kk hg p e R s0 m args below meth c H locs cells slots ls ad ad0 cn0 hE hd9 hdl hc hs9 hr hx hR hB hS hl hwL (cy_push ⟨by rcases hs' with rfl | rfl <;> decide, by rcases hs' with rfl | rfl <;> decide, fun j e => by cases e; exact hel⟩ (cy_pop hwS))
  rw [hcl, if_pos hi]
  exact K
theorem jd_elem {s i : Nat} (hd : 1 ≤ d) (hs : cy_kd s = 6) (hi : i < xLS h s) {x : Int32} (hx : x = nI i) : Ctr g M_Jx4a65c_elementData_915e3 d 0 0 [.inr (s, some 0), .inl (.int x)] h (cy_det (.inl (some (.inr (cy_es (s + 2), some (xLE h s i))))) h) := by
  refine cy_body rfl rfl (by decide) (Nat.le_of_ble_eq_true rfl) ?_
  refine wp_run [(.aload_n 0, 1)] (pc' := 1) (L' := [(0, .inr (s, some 0)), (1, .inl (.int x))]) (st' := [.inr (s, some 0)]) ⟨dJx4a65c_elementData_915e3_0, trivial⟩ rfl rfl ?_
  refine jx_elem (M := M_Jx4a65c_elementData_915e3) (pc2 := 6) hs hi hx rfl rfl rfl dJx4a65c_elementData_915e3_1 dJx4a65c_elementData_915e3_4 dJx4a65c_elementData_915e3_5 ?_
  exact wx_aret rfl rfl dJx4a65c_elementData_915e3_6 ⟨rfl, rfl⟩
theorem jd_chk3 {x y : Int32} (hd : 1 ≤ d) (h0 : ¬ x < 0) (hxy : x < y) : Ctr g M_J3_checkIndex_8e157 d 0 0 [.inl (.int x), .inl (.int y), .inr (1, none)] h (cy_det (.inl (some (.inl (.int x)))) h) := by
  refine cy_body rfl rfl (by decide) (Nat.le_of_ble_eq_true rfl) ?_
  refine wp_run [(.iload_n 0, 1)] (pc' := 1) (L' := [(0, .inl (.int x)), (1, .inl (.int y)), (2, .inr (1, none))]) (st' := [.inl (.int x)]) ⟨dJ3_checkIndex_8e157_0, trivial⟩ rfl rfl ?_
  refine wx_if_lt (tgt := 9) dJ3_checkIndex_8e157_1 (by decide) (fun q => absurd q h0) (fun _ => ?_)
  refine wp_run [(.iload_n 0, 1), (.iload_n 1, 1)] (pc' := 6) (L' := [(0, .inl (.int x)), (1, .inl (.int y)), (2, .inr (1, none))]) (st' := [.inl (.int y), .inl (.int x)]) ⟨dJ3_checkIndex_8e157_4, dJ3_checkIndex_8e157_5, trivial⟩ rfl rfl ?_
  refine wx_icmp_lt (tgt := 16) dJ3_checkIndex_8e157_6 (by decide) (fun _ => ?_) (fun q => absurd hxy q)
  refine wp_run [(.iload_n 0, 1)] (pc' := 17) (L' := [(0, .inl (.int x)), (1, .inl (.int y)), (2, .inr (1, none))]) (st' := [.inl (.int x)]) ⟨dJ3_checkIndex_8e157_16, trivial⟩ rfl rfl ?_
  exact wx_iret rfl rfl dJ3_checkIndex_8e157_17 ⟨rfl, rfl⟩
theorem jd_chk2 {x y : Int32} (hd : 2 ≤ d) (h0 : ¬ x < 0) (hxy : x < y) : Ctr g M_J15_checkIndex_7cf53 d 0 0 [.inl (.int x), .inl (.int y)] h (cy_det (.inl (some (.inl (.int x)))) h) := by
  refine cy_body rfl rfl (by decide) (Nat.le_of_ble_eq_true rfl) ?_
  refine wp_run [(.iload_n 0, 1), (.iload_n 1, 1)] (pc' := 2) (L' := [(0, .inl (.int x)), (1, .inl (.int y))]) (st' := [.inl (.int y), .inl (.int x)]) ⟨dJ15_checkIndex_7cf53_0, dJ15_checkIndex_7cf53_1, trivial⟩ rfl rfl ?_
  refine wx_null (s := 1) (by decide) dJ15_checkIndex_7cf53_2 ?_
  refine wx_staticD (M := M_J15_checkIndex_7cf53) (uc := 0) (us := 0) (As := [.inl (.int x), .inl (.int y), .inr (1, none)]) (rest := []) (ok_J3_checkIndex_8e157 M_J15_checkIndex_7cf53 105) (by decide +kernel) (by decide +kernel) (by omega) (jd_chk3 (d := d - 1) (by omega) h0 hxy) rfl rfl (Nat.le_of_ble_eq_true rfl) dJ15_checkIndex_7cf53_3 ?_
  exact wx_iret rfl rfl dJ15_checkIndex_7cf53_6 ⟨rfl, rfl⟩
theorem jx_le {s i : Nat} (hs : cy_kd s = 6) {v : AV} (kk : xLS h s ≤ 1000 → WP g M d uc us pc L (.inr (s, some i) :: v :: st) h Φ) : WP g M d uc us pc L (.inr (s, some i) :: v :: st) h Φ := by
  intro hg p e R s0 m args below meth c H locs cells slots ls ad ad0 cn0 hE hd9 hdl hc hs9 hr hx hR hB hS hl hwL hwS
  have hi0 : i < xCN h s := (cy_top hwS).2.2 i rfl
  have h6 : xLS h s ≤ 1000 := by
    rcases hR.2.2.2.2.2.1 s (cy_kd6 hs) (by omega) with ⟨q, -⟩ | q
    · omega
    · omega
  exact kk h6 hg p e R s0 m args below meth c H locs cells slots ls ad ad0 cn0 hE hd9 hdl hc hs9 hr hx hR hB hS hl hwL hwS
theorem jd_get {s i : Nat} (hd : 6 ≤ d) (hs : cy_kd s = 6) (hi : i < xLS h s) {x : Int32} (hx : x = nI i) : Ctr g M_Jx4a65c_get_915e3 d 0 0 [.inr (s, some 0), .inl (.int x)] h (cy_det (.inl (some (.inr (cy_es (s + 2), some (xLE h s i))))) h) := by
  refine cy_body rfl rfl (by decide) (Nat.le_of_ble_eq_true rfl) ?_
  refine wp_run [(.iload_n 1, 1), (.aload_n 0, 1)] (pc' := 2) (L' := [(0, .inr (s, some 0)), (1, .inl (.int x))]) (st' := [.inr (s, some 0), .inl (.int x)]) ⟨dJx4a65c_get_915e3_0, dJx4a65c_get_915e3_1, trivial⟩ rfl rfl ?_
  refine jx_le (M := M_Jx4a65c_get_915e3) hs (fun h1000 => ?_)
  refine jx_size (M := M_Jx4a65c_get_915e3) hs rfl dJx4a65c_get_915e3_2 ?_
  refine wx_staticD (M := M_Jx4a65c_get_915e3) (uc := 0) (us := 0) (As := [.inl (.int x), .inl (.int (nI (xLS h s)))]) (rest := []) (ok_J15_checkIndex_7cf53 M_Jx4a65c_get_915e3 118) (by decide +kernel) (by decide +kernel) (by omega) (jd_chk2 (d := d - 1) (by omega) (by rw [hx]; exact nI_pos (by omega)) (by rw [hx]; exact nI_lt hi (by omega))) rfl rfl (Nat.le_of_ble_eq_true rfl) dJx4a65c_get_915e3_5 ?_
  refine wp_run [(.pop, 1), (.aload_n 0, 1), (.iload_n 1, 1)] (pc' := 11) (L' := [(0, .inr (s, some 0)), (1, .inl (.int x))]) (st' := [.inl (.int x), .inr (s, some 0)]) ⟨dJx4a65c_get_915e3_8, dJx4a65c_get_915e3_9, dJx4a65c_get_915e3_10, trivial⟩ rfl rfl ?_
  refine wx_virtualL (M := M_Jx4a65c_get_915e3) (uc := 0) (us := 0) (s := s) (i := 0) (As := [.inl (.int x)]) (rest := []) hs rfl (ok_Jx4a65c_elementData_915e3 M_Jx4a65c_get_915e3 123) (by decide +kernel) (by decide +kernel) (by decide +kernel) (by omega) (jd_elem (d := d - 1) (by omega) hs hi hx) rfl rfl (Nat.le_of_ble_eq_true rfl) dJx4a65c_get_915e3_11 ?_
  exact wx_aret rfl rfl dJx4a65c_get_915e3_14 ⟨rfl, rfl⟩
def H_flk (h : Hp) (s i k : Nat) (v : Int32) : Hp := (h.1, h.2.1, fun x y z => if x = s ∧ y = i ∧ z < k then v else h.2.2.1 x y z, h.2.2.2)
theorem H_flk_s (h : Hp) (s i k : Nat) (v : Int32) : sAI (H_flk h s i k v) s i k v = H_flk h s i (k + 1) v := by
  show (h.1, h.2.1, up3 (H_flk h s i k v).2.2.1 s i k v, h.2.2.2) = (h.1, h.2.1, _, h.2.2.2)
  congr 3
  funext x y z
  show (if x = s ∧ y = i ∧ z = k then v else (if x = s ∧ y = i ∧ z < k then v else h.2.2.1 x y z)) = (if x = s ∧ y = i ∧ z < k + 1 then v else h.2.2.1 x y z)
  by_cases q : x = s ∧ y = i ∧ z < k + 1
  · rw [if_pos q]
    by_cases q2 : x = s ∧ y = i ∧ z = k
    · rw [if_pos q2]
    · rw [if_neg q2, if_pos ⟨q.1, q.2.1, by have := q.2.2; have : ¬ z = k := fun e => q2 ⟨q.1, q.2.1, e⟩; omega⟩]
  · rw [if_neg q, if_neg (fun e => q ⟨e.1, e.2.1, by omega⟩), if_neg (fun e => q ⟨e.1, e.2.1, by omega⟩)]
theorem jd_fill {s i : Nat} (hd : 1 ≤ d) (hs : cy_kd s = 2) (hl : cy_ln h s ≤ 3584) (v : Int32) : Ctr g M_J7_fill_53178 d 0 0 [.inr (s, some i), .inl (.int v)] h (cy_det (.inl none) (H_flk h s i (cy_ln h s) v)) := by
  refine cy_body rfl rfl (by decide) (Nat.le_of_ble_eq_true rfl) ?_
  refine wp_run [(.iconst 0, 1), (.istore_n 2, 1), (.aload_n 0, 1)] (pc' := 3) (L' := [(2, .inl (.int (nI 0))), (0, .inr (s, some i)), (1, .inl (.int v))]) (st' := [.inr (s, some i)]) ⟨dJ7_fill_53178_0, dJ7_fill_53178_1, dJ7_fill_53178_2, trivial⟩ rfl rfl ?_
  refine wx_alen (v := nI (cy_ln h s)) (Or.inl hs) rfl dJ7_fill_53178_3 ?_
  refine wp_run [(.istore_n 3, 1)] (pc' := 5) (L' := [(3, .inl (.int (nI (cy_ln h s)))), (2, .inl (.int (nI 0))), (0, .inr (s, some i)), (1, .inl (.int v))]) (st' := []) ⟨dJ7_fill_53178_4, trivial⟩ rfl rfl ?_
  refine wp_sub (L' := [(0, .inr (s, some i)), (1, .inl (.int v)), (2, .inl (.int (nI 0))), (3, .inl (.int (nI (cy_ln h s))))]) [2, 3, 1, 0] rfl ?_
  have hln : ∀ k, cy_ln (H_flk h s i k v) s = cy_ln h s := fun k => rfl
  have key : ∀ n k : Nat, k + n = cy_ln h s → WP g M_J7_fill_53178 d 0 0 5 [(0, .inr (s, some i)), (1, .inl (.int v)), (2, .inl (.int (nI k))), (3, .inl (.int (nI (cy_ln h s))))] [] (H_flk h s i k v) (cy_det (.inl none) (H_flk h s i (cy_ln h s) v)) := by
    intro n
    induction n with
    | zero =>
      intro k hk
      refine wp_run [(.iload_n 2, 1), (.iload_n 3, 1)] (pc' := 7) (L' := [(0, .inr (s, some i)), (1, .inl (.int v)), (2, .inl (.int (nI k))), (3, .inl (.int (nI (cy_ln h s))))]) (st' := [.inl (.int (nI (cy_ln h s))), .inl (.int (nI k))]) ⟨dJ7_fill_53178_5, dJ7_fill_53178_6, trivial⟩ rfl rfl ?_
      refine wx_icmp_ge (tgt := 20) dJ7_fill_53178_7 (by decide) (fun _ => ?_) (fun q => absurd (nI_le (by omega) (by omega)) q)
      have e : k = cy_ln h s := by omega
      exact wx_vret rfl rfl dJ7_fill_53178_20 ⟨rfl, by rw [e]⟩
    | succ n ih =>
      intro k hk
      refine wp_run [(.iload_n 2, 1), (.iload_n 3, 1)] (pc' := 7) (L' := [(0, .inr (s, some i)), (1, .inl (.int v)), (2, .inl (.int (nI k))), (3, .inl (.int (nI (cy_ln h s))))]) (st' := [.inl (.int (nI (cy_ln h s))), .inl (.int (nI k))]) ⟨dJ7_fill_53178_5, dJ7_fill_53178_6, trivial⟩ rfl rfl ?_
      refine wx_icmp_ge (tgt := 20) dJ7_fill_53178_7 (by decide) (fun q => ?_) (fun _ => ?_)
      · have h9 : nI k < nI (cy_ln h s) := nI_lt (by omega) (by omega)
        rw [Int32.le_iff_toInt_le] at q
        rw [Int32.lt_iff_toInt_lt] at h9
        omega
      refine wp_run [(.aload_n 0, 1), (.iload_n 2, 1), (.iload_n 1, 1)] (pc' := 13) (L' := [(0, .inr (s, some i)), (1, .inl (.int v)), (2, .inl (.int (nI k))), (3, .inl (.int (nI (cy_ln h s))))]) (st' := [.inl (.int v), .inl (.int (nI k)), .inr (s, some i)]) ⟨dJ7_fill_53178_10, dJ7_fill_53178_11, dJ7_fill_53178_12, trivial⟩ rfl rfl ?_
      refine wx_iastN (j := k) (n := cy_ln h s) hs ⟨by omega, (hln k).symm, hl⟩ rfl dJ7_fill_53178_13 ?_
      rw [H_flk_s]
      refine wp_run [(.iinc 2 1, 3)] (pc' := 17) (L' := [(2, .inl (.int (nI k + Int32.ofInt 1))), (0, .inr (s, some i)), (1, .inl (.int v)), (3, .inl (.int (nI (cy_ln h s))))]) (st' := []) ⟨dJ7_fill_53178_14, trivial⟩ rfl rfl ?_
      refine wx_goto (tgt := 5) dJ7_fill_53178_17 (by decide) ?_
      refine wp_sub (L' := [(0, .inr (s, some i)), (1, .inl (.int v)), (2, .inl (.int (nI (k + 1)))), (3, .inl (.int (nI (cy_ln h s))))]) [1, 2, 0, 3] (by rw [show nI k + Int32.ofInt 1 = nI (k + 1) from nI_1 k]; rfl) ?_
      exact ih (k + 1) (by omega)
  refine (?_ : WP g M_J7_fill_53178 d 0 0 5 _ _ h _)
  have e0 : H_flk h s i 0 v = h := by
    show (h.1, h.2.1, _, h.2.2.2) = h
    have : (fun x y z => if x = s ∧ y = i ∧ z < 0 then v else h.2.2.1 x y z) = h.2.2.1 := by
      funext x y z
      exact if_neg (fun q => absurd q.2.2 (Nat.not_lt_zero _))
    rw [this]
  have K := key (cy_ln h s) 0 (by omega)
  rw [e0] at K
  exact K
end JDK1
