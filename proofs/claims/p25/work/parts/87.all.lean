/-! ===== own: all that the law asks at once ===== -/
section QC
variable {g : GT} {d : Nat} {h : Hp} {R : (Nat → Int32) × (Nat → Int32) × Nat}
theorem qf_concerned {q : Nat} (hq : q = 1 ∨ q = 2) (hd : 10 ≤ d) (L : LQ h) (t dy : Int32) {v : Int32} (e : F_X8_concerned h t dy = .inl (some (.inl (.int v)))) : CL g M_X8_concerned d 2 12 [.inr (q, some 0), .inl (.int t), .inl (.int dy)] (h, h, R) (cl_det (.inl (some (.inl (.int v)))) (h, h, R)) := by
  rcases hq with rfl | rfl
  · exact detL_to (cl_concerned (q := 1) (w := (h, h, R)) (by omega) t dy (.inl rfl) L) e rfl
  · exact detL_to (cl_concerned (q := 2) (w := (h, h, R)) (by omega) t dy (.inr rfl) L) e rfl
theorem qf_arrival {q : Nat} (hq : q = 1 ∨ q = 2) (hd : 10 ≤ d) (L : LQ h) {a b ti n v : Int32} (e : (F_X8_arrival h a b ti n).1 = .inl (some (.inl (.int v)))) : CL g M_X8_arrival d 5 30 [.inr (q, some 0), .inl (.int a), .inl (.int b), .inl (.int ti), .inl (.int n)] (h, h, R) (cl_det (.inl (some (.inl (.int v)))) (h, h, R)) := by
  rcases hq with rfl | rfl
  · exact detL_to (cl_arrival (q := 1) (w := (h, h, R)) (by omega) a b ti n (.inl rfl) L) e rfl
  · exact detL_to (cl_arrival (q := 2) (w := (h, h, R)) (by omega) a b ti n (.inr rfl) L) e rfl
theorem q_ride {q : Nat} (hq : q = 1 ∨ q = 2) (hd : 15 ≤ d) (L : LQ h) (a b ti n ri wh : Int32) : CL g M_L_ride d 12 71 [.inr (q, some 0), .inl (.int a), .inl (.int b), .inl (.int ti), .inl (.int n), .inl (.int ri), .inl (.int wh)] (h, h, R) (cl_det (.inl (some (.inl (.int (V_ride h a b ti n ri wh))))) (h, h, R)) := by
  rcases hq with rfl | rfl
  · exact o_ride hd L a b ti n ri wh
  · exact t_ride hd L a b ti n ri wh
end QC
theorem conc_in {h : Hp} (W : CW h) {t : Nat} {d : Int32} (ht : t < xLS h 11) (hd : d = nI 0 ∨ d = nI 1) : F_X8_concerned h (nI t) d = .inl (some (.inl (.int (V_concerned h (nI t) d)))) := by
  have key : ∀ (fu : Nat) (su : Int32) (i : Nat), i ≤ 30 → 31 < i + fu → ∃ x, L_X8_concerned_19 h (nI t) d fu su i = .inl (some (.inl (.int x))) := by
    intro fu
    induction fu with
    | zero => intro su i h1 h2; omega
    | succ fu ih =>
      intro su i h1 h2
      rw [L_X8_concerned_19_s]
      unfold B_X8_concerned_19
      split
      · exact ⟨_, rfl⟩
      · rename_i hk
        have := cy_get (by omega) (Nat.le_trans W.b30 (by omega)) hk
        have := W.b30
        repeat' split
        all_goals exact ih _ _ (by omega) (by omega)
  have od : okR d 0 99 := by rcases hd with rfl | rfl <;> decide
  obtain ⟨x, ex⟩ := key (2147483648 - 0 + 1) 0 0 (by omega) (by omega)
  have e : F_X8_concerned h (nI t) d = .inl (some (.inl (.int x))) := by
    unfold F_X8_concerned
    rw [if_pos (okT_mk W ht), if_pos od, ex]
  unfold V_concerned
  rw [e]
  rfl
theorem s_all {h : Hp} {D : Nat → Int32} (I : IV h D) {t : Nat} (ht : t < xLS h 11) {x : Int32} (hx : x = nI 0 ∨ x = nI 1) : -1000000 ≤ (V_seats h (nI t) x).toInt := by
  rcases hx with rfl | rfl
  · rw [v_seats (d := 0) I.W ht (by decide)]
    have := I.2.2.1 t ht 0 (by decide)
    omega
  · rw [v_seats (d := 1) I.W ht (by decide)]
    have := I.2.2.1 t ht 1 (by decide)
    omega
theorem f_all {h : Hp} (W : CW h) {b : Nat} (hb : b < xLS h 12) : F_X8_ofBooking h (nI b) 0 = .inl (some (.inl (.int (xFI h 103 b)))) ∧ F_X8_ofBooking h (nI b) 1 = .inl (some (.inl (.int (xFI h 101 b)))) ∧ F_X8_ofBooking h (nI b) 2 = .inl (some (.inl (.int (xFI h 302 (bj h b))))) ∧ F_X8_ofBooking h (nI b) 3 = .inl (some (.inl (.int (xFI h 304 (bj h b))))) ∧ F_X8_right h (nI b) = .inl (some (.inl (.int (F_X0_amount h b)))) := by
  have hcl : (nI b).toNatClampNeg = b := nI_clamp (by have := W.b30; omega)
  have f := f_state W hb
  refine ⟨f.1, f.2.1, ?_, ?_, f.2.2⟩
  · unfold F_X8_ofBooking
    rw [if_pos (okB_mk W hb), if_pos (show okR (2 : Int32) 0 3 by decide), if_neg (by decide), if_neg (by decide), if_pos rfl, hcl]
  · unfold F_X8_ofBooking
    rw [if_pos (okB_mk W hb), if_pos (show okR (3 : Int32) 0 3 by decide), if_neg (by decide), if_neg (by decide), if_neg (by decide), hcl]
theorem mod_ne {k n : Nat} (h : 1 < n) : k % n ≠ (k + 1) % n := fun e => by
  have h1 := Nat.div_add_mod k n
  have h2 := Nat.div_add_mod (k + 1) n
  have l1 := Nat.mod_lt k (show 0 < n by omega)
  rw [← e] at h2
  have h3 : n * ((k + 1) / n) = n * (k / n) + 1 := by omega
  have h4 : n ∣ 1 := by
    have : n ∣ n * (k / n) + 1 := ⟨_, h3.symm⟩
    exact (Nat.dvd_add_right (Nat.dvd_mul_right n _)).mp this
  have := Nat.le_of_dvd (by decide) h4
  omega
theorem F_ar {h : Hp} {D : Nat → Int32} {n k : Nat} {a b ti m : Int32} (I : IV h D) (hn : xFI h 403 0 = nI n) (n10 : n ≤ 10) (hn1 : 1 < n) (e : (a = nI (k % n) ∧ b = nI ((k + 1) % n) ∧ ti = 300 ∧ m = 1) ∨ (a = nI ((k + 1) % n) ∧ b = nI (k % n) ∧ ti = 600 ∧ m = 2)) : (F_X8_arrival h a b ti m).1 = .inl (some (.inl (.int (V_arrival h a b ti m)))) := by
  have l1 := Nat.mod_lt k (show 0 < n by omega)
  have l2 := Nat.mod_lt (k + 1) (show 0 < n by omega)
  have ok : okW h a b ti ∧ okR m 1 4 := by
    rcases e with ⟨rfl, rfl, rfl, rfl⟩ | ⟨rfl, rfl, rfl, rfl⟩
    · exact ⟨(I.wa (ti := 300) hn n10 l1 l2 (mod_ne hn1) (by decide)).ok, by decide⟩
    · exact ⟨(I.wa (ti := 600) hn n10 l2 l1 (fun z => mod_ne hn1 z.symm) (by decide)).ok, by decide⟩
  have eF : (F_X8_arrival h a b ti m).1 = .inl (some (.inl (.int (F_X8_timeOrNone (F_X5_end (F_X5_seek h a b ti m) m))))) := by
    unfold F_X8_arrival
    rw [if_pos ok.1, if_pos ok.2]
  unfold V_arrival
  rw [eF]
  rfl
def AB (h : Hp) : Nat → Nat → Int64 → Int64
  | 0, _, acc => acc
  | m + 1, b, acc => AB h m (b + 1) (((((((((((acc * 127) + (((xFI h 103 b)).toInt64)) * 127) + (((xFI h 101 b)).toInt64)) * 127) + (((xFI h 302 (bj h b))).toInt64)) * 127) + (((xFI h 304 (bj h b))).toInt64)) * 127) + (((F_X0_amount h b)).toInt64)))
def AT (h : Hp) : Nat → Nat → Int64 → Int64
  | 0, _, acc => acc
  | m + 1, t, acc => AT h m (t + 1) (((((((((acc * 31) + (((V_seats h (nI t) 0)).toInt64)) * 31) + (((V_concerned h (nI t) 0)).toInt64)) * 31) + (((V_seats h (nI t) 1)).toInt64)) * 31) + (((V_concerned h (nI t) 1)).toInt64)))
def AK (h : Hp) (n : Nat) : Nat → Nat → Int64 → Int64
  | 0, _, acc => acc
  | m + 1, k, acc => AK h n m (k + 1) (((((((acc * 31) + (((V_arrival h (nI ((k) % (n))) (nI ((k + 1) % (n))) 300 1)).toInt64)) * 31) + (((V_arrival h (nI ((k + 1) % (n))) (nI ((k) % (n))) 600 2)).toInt64)) * 31) + (((V_ride h (nI ((k) % (n))) (nI ((k + 1) % (n))) 300 2 1 4)).toInt64)))
theorem c_allN {g : GT} {d q : Nat} (hq : q = 1 ∨ q = 2) (hd : 17 ≤ d) {h : Hp} {D S : Nat → Int32} {N n : Nat} (I : IV h D) (n10 : n ≤ 10) (hn : xFI h 403 0 = nI n) (d0 : D 0 = nI n) : CL g M_L_all d 550 3100 [.inr (q, some 0), .inr (3, some 0)] (h, h, D, S, N) (cl_det (.inl (some (.inl (.long (AB h (xLS h 12) 0 (AT h (xLS h 11) 0 (if 1 < n then AK h n 3 0 17 else 17))))))) (h, h, D, S, N)) := by
  have d1 : D 1 = nI (xLS h 11) := I.2.2.2.2.1
  have d2 : D 2 = nI (xLS h 12) := I.2.2.2.2.2.1
  have h20 := I.W.t20
  have h30 := I.W.b30
  have fB := fun (b : Nat) (hb : b < xLS h 12) => f_all I.W hb
  have fS := fun (t : Nat) (ht : t < xLS h 11) (x : Int32) (hx : x = nI 0 ∨ x = nI 1) => s_all I ht hx
  have key3 : ∀ (m b : Nat) (acc : Int64) (uc us : Nat), b + m = xLS h 12 → 9 * m ≤ uc → 54 * m ≤ us → WL g M_L_all d uc us 169 [(4, .inl (.int (nI b))), (2, .inl (.long acc)), (0, .inr (q, some 0)), (1, .inr (3, some 0))] [] (h, h, D, S, N) (cl_det (.inl (some (.inl (.long (AB h m b acc))))) (h, h, D, S, N)) := by
    intro m
    induction m with
    | zero =>
      intro b acc uc us ht hu hs
      refine wq_run [(.iload 4, 2), (.aload_n 1, 1), (.iconst 2, 1)] (pc' := 173) (L' := [(4, .inl (.int (nI b))), (2, .inl (.long acc)), (0, .inr (q, some 0)), (1, .inr (3, some 0))]) (st' := [.inl (.int 2), .inr (3, some 0), .inl (.int (nI b))]) ⟨dL_all_169, dL_all_171, dL_all_172, trivial⟩ rfl rfl ?_
      refine wl_dldE (k := 2) (v := (nI (xLS h 12))) (by omega) rfl d2 dL_all_173 ?_
      refine wl_icmp_ge (tgt := 228) dL_all_174 (by decide) (fun _ => ?_) (fun hb174 => absurd ((c_le (nI_toInt (by omega)) (nI_toInt (by omega))).mpr (by omega)) hb174)
      refine wl_lload_n dL_all_228 rfl ?_
      exact wl_lret rfl rfl dL_all_229 ⟨rfl, rfl⟩
    | succ m ih =>
      intro b acc uc us ht hu hs
      refine WL.room (uc' := 9 * m + 9) (us' := 54 * m + 54) (by omega) (by omega) ?_
      refine wq_run [(.iload 4, 2), (.aload_n 1, 1), (.iconst 2, 1)] (pc' := 173) (L' := [(4, .inl (.int (nI b))), (2, .inl (.long acc)), (0, .inr (q, some 0)), (1, .inr (3, some 0))]) (st' := [.inl (.int 2), .inr (3, some 0), .inl (.int (nI b))]) ⟨dL_all_169, dL_all_171, dL_all_172, trivial⟩ rfl rfl ?_
      refine wl_dldE (k := 2) (v := (nI (xLS h 12))) (by omega) rfl d2 dL_all_173 ?_
      refine wl_icmp_ge (tgt := 228) dL_all_174 (by decide) (fun hb174 => absurd ((c_le (nI_toInt (by omega)) (nI_toInt (by omega))).mp hb174) (by omega)) (fun _ => ?_)
      refine wq_run [(.iconst 0, 1), (.istore 5, 2), (.iload 5, 2), (.iconst 4, 1)] (pc' := 183) (L' := [(5, .inl (.int 0)), (4, .inl (.int (nI b))), (2, .inl (.long acc)), (0, .inr (q, some 0)), (1, .inr (3, some 0))]) (st' := [.inl (.int 4), .inl (.int 0)]) ⟨dL_all_177, dL_all_178, dL_all_180, dL_all_182, trivial⟩ rfl rfl ?_
      refine wl_icmp_ge (tgt := 208) dL_all_183 (by decide) (fun h => absurd h (by decide)) (fun _ => ?_)
      refine wl_lload_n dL_all_186 rfl ?_
      refine wl_ldc2 kc_L_111 dL_all_187 ?_
      refine wl_lmul dL_all_190 ?_
      refine wq_run [(.aload_n 0, 1), (.iload 4, 2), (.iload 5, 2)] (pc' := 196) (L' := [(5, .inl (.int 0)), (4, .inl (.int (nI b))), (2, .inl (.long acc)), (0, .inr (q, some 0)), (1, .inr (3, some 0))]) (st' := [.inl (.int 0), .inl (.int (nI b)), .inr (q, some 0), .inl (.long (acc * 127))]) ⟨dL_all_191, dL_all_192, dL_all_194, trivial⟩ rfl rfl ?_
      refine wl_virtual (M := M_L_all) (uc := 9 * m + 7) (us := 54 * m + 42) (bc := 2) (bs := 12) (q := q) (As := [.inl (.int (nI b)), .inl (.int 0)]) (rest := [.inl (.long (acc * 127))]) hq rfl (ok_X8_ofBooking _ _) ml_L_86 im_X8_ofBooking se_X8_ofBooking (by omega) (qf_ofBooking (d := d - 1) hq (by omega) I.1 _ _ (fB b (by omega)).1) rfl rfl (Nat.le_of_ble_eq_true rfl) dL_all_196 (fun r9 h9 e9 => ?_) (fun E9 h9 e9 => nomatch e9.1)
      obtain ⟨e9, rfl⟩ := e9
      cases e9
      refine wq_run [(.i2l, 1)] (pc' := 200) (L' := [(5, .inl (.int 0)), (4, .inl (.int (nI b))), (2, .inl (.long acc)), (0, .inr (q, some 0)), (1, .inr (3, some 0))]) (st' := [.inl (.long (((xFI h 103 b)).toInt64)), .inl (.long (acc * 127))]) ⟨dL_all_199, trivial⟩ rfl rfl ?_
      refine wl_ladd dL_all_200 ?_
      refine wl_lstore_n dL_all_201 (by decide) ?_
      refine wq_sub [0, 1, 2, 3, 4] (L' := [(2, .inl (.long ((acc * 127) + (((xFI h 103 b)).toInt64)))), (5, .inl (.int 0)), (4, .inl (.int (nI b))), (0, .inr (q, some 0)), (1, .inr (3, some 0))]) rfl ?_
      refine wq_run [(.iinc 5 1, 3)] (pc' := 205) (L' := [(5, .inl (.int (0 + 1))), (2, .inl (.long ((acc * 127) + (((xFI h 103 b)).toInt64)))), (4, .inl (.int (nI b))), (0, .inr (q, some 0)), (1, .inr (3, some 0))]) (st' := []) ⟨dL_all_202, trivial⟩ rfl rfl ?_
      refine wl_goto (tgt := 180) dL_all_205 (by decide) ?_
      refine wq_run [(.iload 5, 2), (.iconst 4, 1)] (pc' := 183) (L' := [(5, .inl (.int 1)), (2, .inl (.long ((acc * 127) + (((xFI h 103 b)).toInt64)))), (4, .inl (.int (nI b))), (0, .inr (q, some 0)), (1, .inr (3, some 0))]) (st' := [.inl (.int 4), .inl (.int 1)]) ⟨dL_all_180, dL_all_182, trivial⟩ rfl rfl ?_
      refine wl_icmp_ge (tgt := 208) dL_all_183 (by decide) (fun h => absurd h (by decide)) (fun _ => ?_)
      refine wl_lload_n dL_all_186 rfl ?_
      refine wl_ldc2 kc_L_111 dL_all_187 ?_
      refine wl_lmul dL_all_190 ?_
      refine wq_run [(.aload_n 0, 1), (.iload 4, 2), (.iload 5, 2)] (pc' := 196) (L' := [(5, .inl (.int 1)), (2, .inl (.long ((acc * 127) + (((xFI h 103 b)).toInt64)))), (4, .inl (.int (nI b))), (0, .inr (q, some 0)), (1, .inr (3, some 0))]) (st' := [.inl (.int 1), .inl (.int (nI b)), .inr (q, some 0), .inl (.long (((acc * 127) + (((xFI h 103 b)).toInt64)) * 127))]) ⟨dL_all_191, dL_all_192, dL_all_194, trivial⟩ rfl rfl ?_
      refine wl_virtual (M := M_L_all) (uc := 9 * m + 5) (us := 54 * m + 30) (bc := 2) (bs := 12) (q := q) (As := [.inl (.int (nI b)), .inl (.int 1)]) (rest := [.inl (.long (((acc * 127) + (((xFI h 103 b)).toInt64)) * 127))]) hq rfl (ok_X8_ofBooking _ _) ml_L_86 im_X8_ofBooking se_X8_ofBooking (by omega) (qf_ofBooking (d := d - 1) hq (by omega) I.1 _ _ (fB b (by omega)).2.1) rfl rfl (Nat.le_of_ble_eq_true rfl) dL_all_196 (fun r9 h9 e9 => ?_) (fun E9 h9 e9 => nomatch e9.1)
      obtain ⟨e9, rfl⟩ := e9
      cases e9
      refine wq_run [(.i2l, 1)] (pc' := 200) (L' := [(5, .inl (.int 1)), (2, .inl (.long ((acc * 127) + (((xFI h 103 b)).toInt64)))), (4, .inl (.int (nI b))), (0, .inr (q, some 0)), (1, .inr (3, some 0))]) (st' := [.inl (.long (((xFI h 101 b)).toInt64)), .inl (.long (((acc * 127) + (((xFI h 103 b)).toInt64)) * 127))]) ⟨dL_all_199, trivial⟩ rfl rfl ?_
      refine wl_ladd dL_all_200 ?_
      refine wl_lstore_n dL_all_201 (by decide) ?_
      refine wq_sub [0, 1, 2, 3, 4] (L' := [(2, .inl (.long ((((acc * 127) + (((xFI h 103 b)).toInt64)) * 127) + (((xFI h 101 b)).toInt64)))), (5, .inl (.int 1)), (4, .inl (.int (nI b))), (0, .inr (q, some 0)), (1, .inr (3, some 0))]) rfl ?_
      refine wq_run [(.iinc 5 1, 3)] (pc' := 205) (L' := [(5, .inl (.int (1 + 1))), (2, .inl (.long ((((acc * 127) + (((xFI h 103 b)).toInt64)) * 127) + (((xFI h 101 b)).toInt64)))), (4, .inl (.int (nI b))), (0, .inr (q, some 0)), (1, .inr (3, some 0))]) (st' := []) ⟨dL_all_202, trivial⟩ rfl rfl ?_
      refine wl_goto (tgt := 180) dL_all_205 (by decide) ?_
      refine wq_run [(.iload 5, 2), (.iconst 4, 1)] (pc' := 183) (L' := [(5, .inl (.int 2)), (2, .inl (.long ((((acc * 127) + (((xFI h 103 b)).toInt64)) * 127) + (((xFI h 101 b)).toInt64)))), (4, .inl (.int (nI b))), (0, .inr (q, some 0)), (1, .inr (3, some 0))]) (st' := [.inl (.int 4), .inl (.int 2)]) ⟨dL_all_180, dL_all_182, trivial⟩ rfl rfl ?_
      refine wl_icmp_ge (tgt := 208) dL_all_183 (by decide) (fun h => absurd h (by decide)) (fun _ => ?_)
      refine wl_lload_n dL_all_186 rfl ?_
      refine wl_ldc2 kc_L_111 dL_all_187 ?_
      refine wl_lmul dL_all_190 ?_
      refine wq_run [(.aload_n 0, 1), (.iload 4, 2), (.iload 5, 2)] (pc' := 196) (L' := [(5, .inl (.int 2)), (2, .inl (.long ((((acc * 127) + (((xFI h 103 b)).toInt64)) * 127) + (((xFI h 101 b)).toInt64)))), (4, .inl (.int (nI b))), (0, .inr (q, some 0)), (1, .inr (3, some 0))]) (st' := [.inl (.int 2), .inl (.int (nI b)), .inr (q, some 0), .inl (.long (((((acc * 127) + (((xFI h 103 b)).toInt64)) * 127) + (((xFI h 101 b)).toInt64)) * 127))]) ⟨dL_all_191, dL_all_192, dL_all_194, trivial⟩ rfl rfl ?_
      refine wl_virtual (M := M_L_all) (uc := 9 * m + 3) (us := 54 * m + 18) (bc := 2) (bs := 12) (q := q) (As := [.inl (.int (nI b)), .inl (.int 2)]) (rest := [.inl (.long (((((acc * 127) + (((xFI h 103 b)).toInt64)) * 127) + (((xFI h 101 b)).toInt64)) * 127))]) hq rfl (ok_X8_ofBooking _ _) ml_L_86 im_X8_ofBooking se_X8_ofBooking (by omega) (qf_ofBooking (d := d - 1) hq (by omega) I.1 _ _ (fB b (by omega)).2.2.1) rfl rfl (Nat.le_of_ble_eq_true rfl) dL_all_196 (fun r9 h9 e9 => ?_) (fun E9 h9 e9 => nomatch e9.1)
      obtain ⟨e9, rfl⟩ := e9
      cases e9
      refine wq_run [(.i2l, 1)] (pc' := 200) (L' := [(5, .inl (.int 2)), (2, .inl (.long ((((acc * 127) + (((xFI h 103 b)).toInt64)) * 127) + (((xFI h 101 b)).toInt64)))), (4, .inl (.int (nI b))), (0, .inr (q, some 0)), (1, .inr (3, some 0))]) (st' := [.inl (.long (((xFI h 302 (bj h b))).toInt64)), .inl (.long (((((acc * 127) + (((xFI h 103 b)).toInt64)) * 127) + (((xFI h 101 b)).toInt64)) * 127))]) ⟨dL_all_199, trivial⟩ rfl rfl ?_
      refine wl_ladd dL_all_200 ?_
      refine wl_lstore_n dL_all_201 (by decide) ?_
      refine wq_sub [0, 1, 2, 3, 4] (L' := [(2, .inl (.long ((((((acc * 127) + (((xFI h 103 b)).toInt64)) * 127) + (((xFI h 101 b)).toInt64)) * 127) + (((xFI h 302 (bj h b))).toInt64)))), (5, .inl (.int 2)), (4, .inl (.int (nI b))), (0, .inr (q, some 0)), (1, .inr (3, some 0))]) rfl ?_
      refine wq_run [(.iinc 5 1, 3)] (pc' := 205) (L' := [(5, .inl (.int (2 + 1))), (2, .inl (.long ((((((acc * 127) + (((xFI h 103 b)).toInt64)) * 127) + (((xFI h 101 b)).toInt64)) * 127) + (((xFI h 302 (bj h b))).toInt64)))), (4, .inl (.int (nI b))), (0, .inr (q, some 0)), (1, .inr (3, some 0))]) (st' := []) ⟨dL_all_202, trivial⟩ rfl rfl ?_
      refine wl_goto (tgt := 180) dL_all_205 (by decide) ?_
      refine wq_run [(.iload 5, 2), (.iconst 4, 1)] (pc' := 183) (L' := [(5, .inl (.int 3)), (2, .inl (.long ((((((acc * 127) + (((xFI h 103 b)).toInt64)) * 127) + (((xFI h 101 b)).toInt64)) * 127) + (((xFI h 302 (bj h b))).toInt64)))), (4, .inl (.int (nI b))), (0, .inr (q, some 0)), (1, .inr (3, some 0))]) (st' := [.inl (.int 4), .inl (.int 3)]) ⟨dL_all_180, dL_all_182, trivial⟩ rfl rfl ?_
      refine wl_icmp_ge (tgt := 208) dL_all_183 (by decide) (fun h => absurd h (by decide)) (fun _ => ?_)
      refine wl_lload_n dL_all_186 rfl ?_
      refine wl_ldc2 kc_L_111 dL_all_187 ?_
      refine wl_lmul dL_all_190 ?_
      refine wq_run [(.aload_n 0, 1), (.iload 4, 2), (.iload 5, 2)] (pc' := 196) (L' := [(5, .inl (.int 3)), (2, .inl (.long ((((((acc * 127) + (((xFI h 103 b)).toInt64)) * 127) + (((xFI h 101 b)).toInt64)) * 127) + (((xFI h 302 (bj h b))).toInt64)))), (4, .inl (.int (nI b))), (0, .inr (q, some 0)), (1, .inr (3, some 0))]) (st' := [.inl (.int 3), .inl (.int (nI b)), .inr (q, some 0), .inl (.long (((((((acc * 127) + (((xFI h 103 b)).toInt64)) * 127) + (((xFI h 101 b)).toInt64)) * 127) + (((xFI h 302 (bj h b))).toInt64)) * 127))]) ⟨dL_all_191, dL_all_192, dL_all_194, trivial⟩ rfl rfl ?_
      refine wl_virtual (M := M_L_all) (uc := 9 * m + 1) (us := 54 * m + 6) (bc := 2) (bs := 12) (q := q) (As := [.inl (.int (nI b)), .inl (.int 3)]) (rest := [.inl (.long (((((((acc * 127) + (((xFI h 103 b)).toInt64)) * 127) + (((xFI h 101 b)).toInt64)) * 127) + (((xFI h 302 (bj h b))).toInt64)) * 127))]) hq rfl (ok_X8_ofBooking _ _) ml_L_86 im_X8_ofBooking se_X8_ofBooking (by omega) (qf_ofBooking (d := d - 1) hq (by omega) I.1 _ _ (fB b (by omega)).2.2.2.1) rfl rfl (Nat.le_of_ble_eq_true rfl) dL_all_196 (fun r9 h9 e9 => ?_) (fun E9 h9 e9 => nomatch e9.1)
      obtain ⟨e9, rfl⟩ := e9
      cases e9
      refine wq_run [(.i2l, 1)] (pc' := 200) (L' := [(5, .inl (.int 3)), (2, .inl (.long ((((((acc * 127) + (((xFI h 103 b)).toInt64)) * 127) + (((xFI h 101 b)).toInt64)) * 127) + (((xFI h 302 (bj h b))).toInt64)))), (4, .inl (.int (nI b))), (0, .inr (q, some 0)), (1, .inr (3, some 0))]) (st' := [.inl (.long (((xFI h 304 (bj h b))).toInt64)), .inl (.long (((((((acc * 127) + (((xFI h 103 b)).toInt64)) * 127) + (((xFI h 101 b)).toInt64)) * 127) + (((xFI h 302 (bj h b))).toInt64)) * 127))]) ⟨dL_all_199, trivial⟩ rfl rfl ?_
      refine wl_ladd dL_all_200 ?_
      refine wl_lstore_n dL_all_201 (by decide) ?_
      refine wq_sub [0, 1, 2, 3, 4] (L' := [(2, .inl (.long ((((((((acc * 127) + (((xFI h 103 b)).toInt64)) * 127) + (((xFI h 101 b)).toInt64)) * 127) + (((xFI h 302 (bj h b))).toInt64)) * 127) + (((xFI h 304 (bj h b))).toInt64)))), (5, .inl (.int 3)), (4, .inl (.int (nI b))), (0, .inr (q, some 0)), (1, .inr (3, some 0))]) rfl ?_
      refine wq_run [(.iinc 5 1, 3)] (pc' := 205) (L' := [(5, .inl (.int (3 + 1))), (2, .inl (.long ((((((((acc * 127) + (((xFI h 103 b)).toInt64)) * 127) + (((xFI h 101 b)).toInt64)) * 127) + (((xFI h 302 (bj h b))).toInt64)) * 127) + (((xFI h 304 (bj h b))).toInt64)))), (4, .inl (.int (nI b))), (0, .inr (q, some 0)), (1, .inr (3, some 0))]) (st' := []) ⟨dL_all_202, trivial⟩ rfl rfl ?_
      refine wl_goto (tgt := 180) dL_all_205 (by decide) ?_
      refine wq_run [(.iload 5, 2), (.iconst 4, 1)] (pc' := 183) (L' := [(5, .inl (.int 4)), (2, .inl (.long ((((((((acc * 127) + (((xFI h 103 b)).toInt64)) * 127) + (((xFI h 101 b)).toInt64)) * 127) + (((xFI h 302 (bj h b))).toInt64)) * 127) + (((xFI h 304 (bj h b))).toInt64)))), (4, .inl (.int (nI b))), (0, .inr (q, some 0)), (1, .inr (3, some 0))]) (st' := [.inl (.int 4), .inl (.int 4)]) ⟨dL_all_180, dL_all_182, trivial⟩ rfl rfl ?_
      refine wl_icmp_ge (tgt := 208) dL_all_183 (by decide) (fun _ => ?_) (fun h => absurd h (by decide))
      refine wl_lload_n dL_all_208 rfl ?_
      refine wl_ldc2 kc_L_111 dL_all_209 ?_
      refine wl_lmul dL_all_212 ?_
      refine wq_run [(.aload_n 0, 1), (.iload 4, 2)] (pc' := 216) (L' := [(5, .inl (.int 4)), (2, .inl (.long ((((((((acc * 127) + (((xFI h 103 b)).toInt64)) * 127) + (((xFI h 101 b)).toInt64)) * 127) + (((xFI h 302 (bj h b))).toInt64)) * 127) + (((xFI h 304 (bj h b))).toInt64)))), (4, .inl (.int (nI b))), (0, .inr (q, some 0)), (1, .inr (3, some 0))]) (st' := [.inl (.int (nI b)), .inr (q, some 0), .inl (.long (((((((((acc * 127) + (((xFI h 103 b)).toInt64)) * 127) + (((xFI h 101 b)).toInt64)) * 127) + (((xFI h 302 (bj h b))).toInt64)) * 127) + (((xFI h 304 (bj h b))).toInt64)) * 127))]) ⟨dL_all_213, dL_all_214, trivial⟩ rfl rfl ?_
      refine wl_virtual (M := M_L_all) (uc := 9 * m + 0) (us := 54 * m + 0) (bc := 1) (bs := 6) (q := q) (As := [.inl (.int (nI b))]) (rest := [.inl (.long (((((((((acc * 127) + (((xFI h 103 b)).toInt64)) * 127) + (((xFI h 101 b)).toInt64)) * 127) + (((xFI h 302 (bj h b))).toInt64)) * 127) + (((xFI h 304 (bj h b))).toInt64)) * 127))]) hq rfl (ok_X8_right _ _) ml_L_71 im_X8_right se_X8_right (by omega) (qf_right (d := d - 1) hq (by omega) I.1 _ (fB b (by omega)).2.2.2.2) rfl rfl (Nat.le_of_ble_eq_true rfl) dL_all_216 (fun r9 h9 e9 => ?_) (fun E9 h9 e9 => nomatch e9.1)
      obtain ⟨e9, rfl⟩ := e9
      cases e9
      refine wq_run [(.i2l, 1)] (pc' := 220) (L' := [(5, .inl (.int 4)), (2, .inl (.long ((((((((acc * 127) + (((xFI h 103 b)).toInt64)) * 127) + (((xFI h 101 b)).toInt64)) * 127) + (((xFI h 302 (bj h b))).toInt64)) * 127) + (((xFI h 304 (bj h b))).toInt64)))), (4, .inl (.int (nI b))), (0, .inr (q, some 0)), (1, .inr (3, some 0))]) (st' := [.inl (.long (((F_X0_amount h b)).toInt64)), .inl (.long (((((((((acc * 127) + (((xFI h 103 b)).toInt64)) * 127) + (((xFI h 101 b)).toInt64)) * 127) + (((xFI h 302 (bj h b))).toInt64)) * 127) + (((xFI h 304 (bj h b))).toInt64)) * 127))]) ⟨dL_all_219, trivial⟩ rfl rfl ?_
      refine wl_ladd dL_all_220 ?_
      refine wl_lstore_n dL_all_221 (by decide) ?_
      refine wq_sub [0, 1, 2, 3, 4] (L' := [(2, .inl (.long ((((((((((acc * 127) + (((xFI h 103 b)).toInt64)) * 127) + (((xFI h 101 b)).toInt64)) * 127) + (((xFI h 302 (bj h b))).toInt64)) * 127) + (((xFI h 304 (bj h b))).toInt64)) * 127) + (((F_X0_amount h b)).toInt64)))), (5, .inl (.int 4)), (4, .inl (.int (nI b))), (0, .inr (q, some 0)), (1, .inr (3, some 0))]) rfl ?_
      refine wq_run [(.iinc 4 1, 3)] (pc' := 225) (L' := [(4, .inl (.int ((nI b) + 1))), (2, .inl (.long ((((((((((acc * 127) + (((xFI h 103 b)).toInt64)) * 127) + (((xFI h 101 b)).toInt64)) * 127) + (((xFI h 302 (bj h b))).toInt64)) * 127) + (((xFI h 304 (bj h b))).toInt64)) * 127) + (((F_X0_amount h b)).toInt64)))), (5, .inl (.int 4)), (0, .inr (q, some 0)), (1, .inr (3, some 0))]) (st' := []) ⟨dL_all_222, trivial⟩ rfl rfl ?_
      rw [show nI b + (1 : Int32) = nI (b + 1) from nI_add _ 1]
      refine wl_goto (tgt := 169) dL_all_225 (by decide) ?_
      refine wq_sub [0, 1, 3, 4] (L' := [(4, .inl (.int (nI (b + 1)))), (2, .inl (.long ((((((((((acc * 127) + (((xFI h 103 b)).toInt64)) * 127) + (((xFI h 101 b)).toInt64)) * 127) + (((xFI h 302 (bj h b))).toInt64)) * 127) + (((xFI h 304 (bj h b))).toInt64)) * 127) + (((F_X0_amount h b)).toInt64)))), (0, .inr (q, some 0)), (1, .inr (3, some 0))]) rfl ?_
      exact ih (b + 1) _ _ _ (by omega) (by omega) (by omega)
  have key2 : ∀ (m t : Nat) (acc : Int64) (uc us : Nat), t + m = xLS h 11 → 8 * m + 300 ≤ uc → 48 * m + 1700 ≤ us → WL g M_L_all d uc us 107 [(4, .inl (.int (nI t))), (2, .inl (.long acc)), (0, .inr (q, some 0)), (1, .inr (3, some 0))] [] (h, h, D, S, N) (cl_det (.inl (some (.inl (.long (AB h (xLS h 12) 0 (AT h m t acc)))))) (h, h, D, S, N)) := by
    intro m
    induction m with
    | zero =>
      intro t acc uc us ht hu hs
      refine wq_run [(.iload 4, 2), (.aload_n 1, 1), (.iconst 1, 1)] (pc' := 111) (L' := [(4, .inl (.int (nI t))), (2, .inl (.long acc)), (0, .inr (q, some 0)), (1, .inr (3, some 0))]) (st' := [.inl (.int 1), .inr (3, some 0), .inl (.int (nI t))]) ⟨dL_all_107, dL_all_109, dL_all_110, trivial⟩ rfl rfl ?_
      refine wl_dldE (k := 1) (v := (nI (xLS h 11))) (by omega) rfl d1 dL_all_111 ?_
      refine wl_icmp_ge (tgt := 166) dL_all_112 (by decide) (fun _ => ?_) (fun hb112 => absurd ((c_le (nI_toInt (by omega)) (nI_toInt (by omega))).mpr (by omega)) hb112)
      refine wq_run [(.iconst 0, 1), (.istore 4, 2)] (pc' := 169) (L' := [(4, .inl (.int 0)), (2, .inl (.long acc)), (0, .inr (q, some 0)), (1, .inr (3, some 0))]) (st' := []) ⟨dL_all_166, dL_all_167, trivial⟩ rfl rfl ?_
      refine wq_sub [0, 1, 2, 3] (L' := [(4, .inl (.int 0)), (2, .inl (.long acc)), (0, .inr (q, some 0)), (1, .inr (3, some 0))]) rfl ?_
      exact key3 (xLS h 12) 0 _ _ _ (by omega) (by omega) (by omega)
    | succ m ih =>
      intro t acc uc us ht hu hs
      refine WL.room (uc' := 8 * m + 308) (us' := 48 * m + 1748) (by omega) (by omega) ?_
      refine wq_run [(.iload 4, 2), (.aload_n 1, 1), (.iconst 1, 1)] (pc' := 111) (L' := [(4, .inl (.int (nI t))), (2, .inl (.long acc)), (0, .inr (q, some 0)), (1, .inr (3, some 0))]) (st' := [.inl (.int 1), .inr (3, some 0), .inl (.int (nI t))]) ⟨dL_all_107, dL_all_109, dL_all_110, trivial⟩ rfl rfl ?_
      refine wl_dldE (k := 1) (v := (nI (xLS h 11))) (by omega) rfl d1 dL_all_111 ?_
      refine wl_icmp_ge (tgt := 166) dL_all_112 (by decide) (fun hb112 => absurd ((c_le (nI_toInt (by omega)) (nI_toInt (by omega))).mp hb112) (by omega)) (fun _ => ?_)
      refine wq_run [(.iconst 0, 1), (.istore 5, 2), (.iload 5, 2), (.iconst 2, 1)] (pc' := 121) (L' := [(5, .inl (.int 0)), (4, .inl (.int (nI t))), (2, .inl (.long acc)), (0, .inr (q, some 0)), (1, .inr (3, some 0))]) (st' := [.inl (.int 2), .inl (.int 0)]) ⟨dL_all_115, dL_all_116, dL_all_118, dL_all_120, trivial⟩ rfl rfl ?_
      refine wl_icmp_ge (tgt := 160) dL_all_121 (by decide) (fun h => absurd h (by decide)) (fun _ => ?_)
      refine wl_lload_n dL_all_124 rfl ?_
      refine wl_ldc2 kc_L_106 dL_all_125 ?_
      refine wl_lmul dL_all_128 ?_
      refine wq_run [(.aload_n 0, 1), (.iload 4, 2), (.iload 5, 2)] (pc' := 134) (L' := [(5, .inl (.int 0)), (4, .inl (.int (nI t))), (2, .inl (.long acc)), (0, .inr (q, some 0)), (1, .inr (3, some 0))]) (st' := [.inl (.int 0), .inl (.int (nI t)), .inr (q, some 0), .inl (.long (acc * 31))]) ⟨dL_all_129, dL_all_130, dL_all_132, trivial⟩ rfl rfl ?_
      refine wl_virtual (M := M_L_all) (uc := 8 * m + 306) (us := 48 * m + 1736) (bc := 2) (bs := 12) (q := q) (As := [.inl (.int (nI t)), .inl (.int 0)]) (rest := [.inl (.long (acc * 31))]) hq rfl (ok_X8_seats _ _) ml_L_80 im_X8_seats se_X8_seats (by omega) (q_seats (d := d - 1) hq (by omega) I.1 (nI t) 0 rfl (fS t (by omega) 0 (.inl rfl))) rfl rfl (Nat.le_of_ble_eq_true rfl) dL_all_134 (fun r9 h9 e9 => ?_) (fun E9 h9 e9 => nomatch e9.1)
      obtain ⟨e9, rfl⟩ := e9
      cases e9
      refine wq_run [(.i2l, 1)] (pc' := 138) (L' := [(5, .inl (.int 0)), (4, .inl (.int (nI t))), (2, .inl (.long acc)), (0, .inr (q, some 0)), (1, .inr (3, some 0))]) (st' := [.inl (.long (((V_seats h (nI t) 0)).toInt64)), .inl (.long (acc * 31))]) ⟨dL_all_137, trivial⟩ rfl rfl ?_
      refine wl_ladd dL_all_138 ?_
      refine wl_ldc2 kc_L_106 dL_all_139 ?_
      refine wl_lmul dL_all_142 ?_
      refine wq_run [(.aload_n 0, 1), (.iload 4, 2), (.iload 5, 2)] (pc' := 148) (L' := [(5, .inl (.int 0)), (4, .inl (.int (nI t))), (2, .inl (.long acc)), (0, .inr (q, some 0)), (1, .inr (3, some 0))]) (st' := [.inl (.int 0), .inl (.int (nI t)), .inr (q, some 0), .inl (.long (((acc * 31) + (((V_seats h (nI t) 0)).toInt64)) * 31))]) ⟨dL_all_143, dL_all_144, dL_all_146, trivial⟩ rfl rfl ?_
      refine wl_virtual (M := M_L_all) (uc := 8 * m + 304) (us := 48 * m + 1724) (bc := 2) (bs := 12) (q := q) (As := [.inl (.int (nI t)), .inl (.int 0)]) (rest := [.inl (.long (((acc * 31) + (((V_seats h (nI t) 0)).toInt64)) * 31))]) hq rfl (ok_X8_concerned _ _) ml_L_77 im_X8_concerned se_X8_concerned (by omega) (qf_concerned (d := d - 1) hq (by omega) I.1 _ _ (conc_in I.W (t := t) (d := 0) (by omega) (.inl rfl))) rfl rfl (Nat.le_of_ble_eq_true rfl) dL_all_148 (fun r9 h9 e9 => ?_) (fun E9 h9 e9 => nomatch e9.1)
      obtain ⟨e9, rfl⟩ := e9
      cases e9
      refine wq_run [(.i2l, 1)] (pc' := 152) (L' := [(5, .inl (.int 0)), (4, .inl (.int (nI t))), (2, .inl (.long acc)), (0, .inr (q, some 0)), (1, .inr (3, some 0))]) (st' := [.inl (.long (((V_concerned h (nI t) 0)).toInt64)), .inl (.long (((acc * 31) + (((V_seats h (nI t) 0)).toInt64)) * 31))]) ⟨dL_all_151, trivial⟩ rfl rfl ?_
      refine wl_ladd dL_all_152 ?_
      refine wl_lstore_n dL_all_153 (by decide) ?_
      refine wq_sub [0, 1, 2, 3, 4] (L' := [(2, .inl (.long ((((acc * 31) + (((V_seats h (nI t) 0)).toInt64)) * 31) + (((V_concerned h (nI t) 0)).toInt64)))), (5, .inl (.int 0)), (4, .inl (.int (nI t))), (0, .inr (q, some 0)), (1, .inr (3, some 0))]) rfl ?_
      refine wq_run [(.iinc 5 1, 3)] (pc' := 157) (L' := [(5, .inl (.int (0 + 1))), (2, .inl (.long ((((acc * 31) + (((V_seats h (nI t) 0)).toInt64)) * 31) + (((V_concerned h (nI t) 0)).toInt64)))), (4, .inl (.int (nI t))), (0, .inr (q, some 0)), (1, .inr (3, some 0))]) (st' := []) ⟨dL_all_154, trivial⟩ rfl rfl ?_
      refine wl_goto (tgt := 118) dL_all_157 (by decide) ?_
      refine wq_run [(.iload 5, 2), (.iconst 2, 1)] (pc' := 121) (L' := [(5, .inl (.int 1)), (2, .inl (.long ((((acc * 31) + (((V_seats h (nI t) 0)).toInt64)) * 31) + (((V_concerned h (nI t) 0)).toInt64)))), (4, .inl (.int (nI t))), (0, .inr (q, some 0)), (1, .inr (3, some 0))]) (st' := [.inl (.int 2), .inl (.int 1)]) ⟨dL_all_118, dL_all_120, trivial⟩ rfl rfl ?_
      refine wl_icmp_ge (tgt := 160) dL_all_121 (by decide) (fun h => absurd h (by decide)) (fun _ => ?_)
      refine wl_lload_n dL_all_124 rfl ?_
      refine wl_ldc2 kc_L_106 dL_all_125 ?_
      refine wl_lmul dL_all_128 ?_
      refine wq_run [(.aload_n 0, 1), (.iload 4, 2), (.iload 5, 2)] (pc' := 134) (L' := [(5, .inl (.int 1)), (2, .inl (.long ((((acc * 31) + (((V_seats h (nI t) 0)).toInt64)) * 31) + (((V_concerned h (nI t) 0)).toInt64)))), (4, .inl (.int (nI t))), (0, .inr (q, some 0)), (1, .inr (3, some 0))]) (st' := [.inl (.int 1), .inl (.int (nI t)), .inr (q, some 0), .inl (.long (((((acc * 31) + (((V_seats h (nI t) 0)).toInt64)) * 31) + (((V_concerned h (nI t) 0)).toInt64)) * 31))]) ⟨dL_all_129, dL_all_130, dL_all_132, trivial⟩ rfl rfl ?_
      refine wl_virtual (M := M_L_all) (uc := 8 * m + 302) (us := 48 * m + 1712) (bc := 2) (bs := 12) (q := q) (As := [.inl (.int (nI t)), .inl (.int 1)]) (rest := [.inl (.long (((((acc * 31) + (((V_seats h (nI t) 0)).toInt64)) * 31) + (((V_concerned h (nI t) 0)).toInt64)) * 31))]) hq rfl (ok_X8_seats _ _) ml_L_80 im_X8_seats se_X8_seats (by omega) (q_seats (d := d - 1) hq (by omega) I.1 (nI t) 1 rfl (fS t (by omega) 1 (.inr rfl))) rfl rfl (Nat.le_of_ble_eq_true rfl) dL_all_134 (fun r9 h9 e9 => ?_) (fun E9 h9 e9 => nomatch e9.1)
      obtain ⟨e9, rfl⟩ := e9
      cases e9
      refine wq_run [(.i2l, 1)] (pc' := 138) (L' := [(5, .inl (.int 1)), (2, .inl (.long ((((acc * 31) + (((V_seats h (nI t) 0)).toInt64)) * 31) + (((V_concerned h (nI t) 0)).toInt64)))), (4, .inl (.int (nI t))), (0, .inr (q, some 0)), (1, .inr (3, some 0))]) (st' := [.inl (.long (((V_seats h (nI t) 1)).toInt64)), .inl (.long (((((acc * 31) + (((V_seats h (nI t) 0)).toInt64)) * 31) + (((V_concerned h (nI t) 0)).toInt64)) * 31))]) ⟨dL_all_137, trivial⟩ rfl rfl ?_
      refine wl_ladd dL_all_138 ?_
      refine wl_ldc2 kc_L_106 dL_all_139 ?_
      refine wl_lmul dL_all_142 ?_
      refine wq_run [(.aload_n 0, 1), (.iload 4, 2), (.iload 5, 2)] (pc' := 148) (L' := [(5, .inl (.int 1)), (2, .inl (.long ((((acc * 31) + (((V_seats h (nI t) 0)).toInt64)) * 31) + (((V_concerned h (nI t) 0)).toInt64)))), (4, .inl (.int (nI t))), (0, .inr (q, some 0)), (1, .inr (3, some 0))]) (st' := [.inl (.int 1), .inl (.int (nI t)), .inr (q, some 0), .inl (.long (((((((acc * 31) + (((V_seats h (nI t) 0)).toInt64)) * 31) + (((V_concerned h (nI t) 0)).toInt64)) * 31) + (((V_seats h (nI t) 1)).toInt64)) * 31))]) ⟨dL_all_143, dL_all_144, dL_all_146, trivial⟩ rfl rfl ?_
      refine wl_virtual (M := M_L_all) (uc := 8 * m + 300) (us := 48 * m + 1700) (bc := 2) (bs := 12) (q := q) (As := [.inl (.int (nI t)), .inl (.int 1)]) (rest := [.inl (.long (((((((acc * 31) + (((V_seats h (nI t) 0)).toInt64)) * 31) + (((V_concerned h (nI t) 0)).toInt64)) * 31) + (((V_seats h (nI t) 1)).toInt64)) * 31))]) hq rfl (ok_X8_concerned _ _) ml_L_77 im_X8_concerned se_X8_concerned (by omega) (qf_concerned (d := d - 1) hq (by omega) I.1 _ _ (conc_in I.W (t := t) (d := 1) (by omega) (.inr rfl))) rfl rfl (Nat.le_of_ble_eq_true rfl) dL_all_148 (fun r9 h9 e9 => ?_) (fun E9 h9 e9 => nomatch e9.1)
      obtain ⟨e9, rfl⟩ := e9
      cases e9
      refine wq_run [(.i2l, 1)] (pc' := 152) (L' := [(5, .inl (.int 1)), (2, .inl (.long ((((acc * 31) + (((V_seats h (nI t) 0)).toInt64)) * 31) + (((V_concerned h (nI t) 0)).toInt64)))), (4, .inl (.int (nI t))), (0, .inr (q, some 0)), (1, .inr (3, some 0))]) (st' := [.inl (.long (((V_concerned h (nI t) 1)).toInt64)), .inl (.long (((((((acc * 31) + (((V_seats h (nI t) 0)).toInt64)) * 31) + (((V_concerned h (nI t) 0)).toInt64)) * 31) + (((V_seats h (nI t) 1)).toInt64)) * 31))]) ⟨dL_all_151, trivial⟩ rfl rfl ?_
      refine wl_ladd dL_all_152 ?_
      refine wl_lstore_n dL_all_153 (by decide) ?_
      refine wq_sub [0, 1, 2, 3, 4] (L' := [(2, .inl (.long ((((((((acc * 31) + (((V_seats h (nI t) 0)).toInt64)) * 31) + (((V_concerned h (nI t) 0)).toInt64)) * 31) + (((V_seats h (nI t) 1)).toInt64)) * 31) + (((V_concerned h (nI t) 1)).toInt64)))), (5, .inl (.int 1)), (4, .inl (.int (nI t))), (0, .inr (q, some 0)), (1, .inr (3, some 0))]) rfl ?_
      refine wq_run [(.iinc 5 1, 3)] (pc' := 157) (L' := [(5, .inl (.int (1 + 1))), (2, .inl (.long ((((((((acc * 31) + (((V_seats h (nI t) 0)).toInt64)) * 31) + (((V_concerned h (nI t) 0)).toInt64)) * 31) + (((V_seats h (nI t) 1)).toInt64)) * 31) + (((V_concerned h (nI t) 1)).toInt64)))), (4, .inl (.int (nI t))), (0, .inr (q, some 0)), (1, .inr (3, some 0))]) (st' := []) ⟨dL_all_154, trivial⟩ rfl rfl ?_
      refine wl_goto (tgt := 118) dL_all_157 (by decide) ?_
      refine wq_run [(.iload 5, 2), (.iconst 2, 1)] (pc' := 121) (L' := [(5, .inl (.int 2)), (2, .inl (.long ((((((((acc * 31) + (((V_seats h (nI t) 0)).toInt64)) * 31) + (((V_concerned h (nI t) 0)).toInt64)) * 31) + (((V_seats h (nI t) 1)).toInt64)) * 31) + (((V_concerned h (nI t) 1)).toInt64)))), (4, .inl (.int (nI t))), (0, .inr (q, some 0)), (1, .inr (3, some 0))]) (st' := [.inl (.int 2), .inl (.int 2)]) ⟨dL_all_118, dL_all_120, trivial⟩ rfl rfl ?_
      refine wl_icmp_ge (tgt := 160) dL_all_121 (by decide) (fun _ => ?_) (fun h => absurd h (by decide))
      refine wq_run [(.iinc 4 1, 3)] (pc' := 163) (L' := [(4, .inl (.int ((nI t) + 1))), (5, .inl (.int 2)), (2, .inl (.long ((((((((acc * 31) + (((V_seats h (nI t) 0)).toInt64)) * 31) + (((V_concerned h (nI t) 0)).toInt64)) * 31) + (((V_seats h (nI t) 1)).toInt64)) * 31) + (((V_concerned h (nI t) 1)).toInt64)))), (0, .inr (q, some 0)), (1, .inr (3, some 0))]) (st' := []) ⟨dL_all_160, trivial⟩ rfl rfl ?_
      rw [show nI t + (1 : Int32) = nI (t + 1) from nI_add _ 1]
      refine wl_goto (tgt := 107) dL_all_163 (by decide) ?_
      refine wq_sub [0, 2, 3, 4] (L' := [(4, .inl (.int (nI (t + 1)))), (2, .inl (.long ((((((((acc * 31) + (((V_seats h (nI t) 0)).toInt64)) * 31) + (((V_concerned h (nI t) 0)).toInt64)) * 31) + (((V_seats h (nI t) 1)).toInt64)) * 31) + (((V_concerned h (nI t) 1)).toInt64)))), (0, .inr (q, some 0)), (1, .inr (3, some 0))]) rfl ?_
      exact ih (t + 1) _ _ _ (by omega) (by omega) (by omega)
  have key1 : 1 < n → ∀ (m k : Nat) (acc : Int64) (uc us : Nat), k + m = 3 → 22 * m + 460 ≤ uc → 131 * m + 2660 ≤ us → WL g M_L_all d uc us 7 [(4, .inl (.int (nI k))), (2, .inl (.long acc)), (0, .inr (q, some 0)), (1, .inr (3, some 0))] [] (h, h, D, S, N) (cl_det (.inl (some (.inl (.long (AB h (xLS h 12) 0 (AT h (xLS h 11) 0 (AK h n m k acc))))))) (h, h, D, S, N)) := by
    intro hn1 m
    induction m with
    | zero =>
      intro k acc uc us ht hu hs
      refine wq_run [(.iload 4, 2), (.iconst 3, 1)] (pc' := 10) (L' := [(4, .inl (.int (nI k))), (2, .inl (.long acc)), (0, .inr (q, some 0)), (1, .inr (3, some 0))]) (st' := [.inl (.int 3), .inl (.int (nI k))]) ⟨dL_all_7, dL_all_9, trivial⟩ rfl rfl ?_
      refine wl_icmp_ge (tgt := 104) dL_all_10 (by decide) (fun _ => ?_) (fun hb10 => absurd ((c_le (by decide : (3 : Int32).toInt = 3) (nI_toInt (by omega))).mpr (by omega)) hb10)
      refine wq_run [(.iconst 0, 1), (.istore 4, 2)] (pc' := 107) (L' := [(4, .inl (.int 0)), (2, .inl (.long acc)), (0, .inr (q, some 0)), (1, .inr (3, some 0))]) (st' := []) ⟨dL_all_104, dL_all_105, trivial⟩ rfl rfl ?_
      refine wq_sub [0, 1, 2, 3] (L' := [(4, .inl (.int 0)), (2, .inl (.long acc)), (0, .inr (q, some 0)), (1, .inr (3, some 0))]) rfl ?_
      exact key2 (xLS h 11) 0 _ _ _ (by omega) (by omega) (by omega)
    | succ m ih =>
      intro k acc uc us ht hu hs
      refine WL.room (uc' := 22 * m + 482) (us' := 131 * m + 2791) (by omega) (by omega) ?_
      refine wq_run [(.iload 4, 2), (.iconst 3, 1)] (pc' := 10) (L' := [(4, .inl (.int (nI k))), (2, .inl (.long acc)), (0, .inr (q, some 0)), (1, .inr (3, some 0))]) (st' := [.inl (.int 3), .inl (.int (nI k))]) ⟨dL_all_7, dL_all_9, trivial⟩ rfl rfl ?_
      refine wl_icmp_ge (tgt := 104) dL_all_10 (by decide) (fun hb10 => absurd ((c_le (by decide : (3 : Int32).toInt = 3) (nI_toInt (by omega))).mp hb10) (by omega)) (fun _ => ?_)
      refine wq_run [(.aload_n 1, 1), (.iconst 0, 1)] (pc' := 15) (L' := [(4, .inl (.int (nI k))), (2, .inl (.long acc)), (0, .inr (q, some 0)), (1, .inr (3, some 0))]) (st' := [.inl (.int 0), .inr (3, some 0)]) ⟨dL_all_13, dL_all_14, trivial⟩ rfl rfl ?_
      refine wl_dldE (k := 0) (v := (nI n)) (by omega) rfl d0 dL_all_15 ?_
      refine wq_run [(.iconst 1, 1)] (pc' := 17) (L' := [(4, .inl (.int (nI k))), (2, .inl (.long acc)), (0, .inr (q, some 0)), (1, .inr (3, some 0))]) (st' := [.inl (.int 1), .inl (.int (nI n))]) ⟨dL_all_16, trivial⟩ rfl rfl ?_
      refine wl_icmp_le (tgt := 104) dL_all_17 (by decide) (fun hb17 => absurd ((c_le (nI_toInt (by omega)) (by decide : (1 : Int32).toInt = 1)).mp hb17) (by omega)) (fun _ => ?_)
      refine wq_run [(.iload 4, 2), (.aload_n 1, 1), (.iconst 0, 1)] (pc' := 24) (L' := [(4, .inl (.int (nI k))), (2, .inl (.long acc)), (0, .inr (q, some 0)), (1, .inr (3, some 0))]) (st' := [.inl (.int 0), .inr (3, some 0), .inl (.int (nI k))]) ⟨dL_all_20, dL_all_22, dL_all_23, trivial⟩ rfl rfl ?_
      refine wl_dldE (k := 0) (v := (nI n)) (by omega) rfl d0 dL_all_24 ?_
      refine wl_remE (a := k) (b := n) (by omega) (by omega) (by omega) rfl rfl dL_all_25 ?_
      refine wq_run [(.istore 5, 2), (.iload 4, 2), (.iconst 1, 1), (.iadd, 1)] (pc' := 32) (L' := [(5, .inl (.int (nI ((k) % (n))))), (4, .inl (.int (nI k))), (2, .inl (.long acc)), (0, .inr (q, some 0)), (1, .inr (3, some 0))]) (st' := [.inl (.int ((nI k) + 1))]) ⟨dL_all_26, dL_all_28, dL_all_30, dL_all_31, trivial⟩ rfl rfl ?_
      rw [show nI k + (1 : Int32) = nI (k + 1) from nI_add _ 1]
      refine wq_run [(.aload_n 1, 1), (.iconst 0, 1)] (pc' := 34) (L' := [(5, .inl (.int (nI ((k) % (n))))), (4, .inl (.int (nI k))), (2, .inl (.long acc)), (0, .inr (q, some 0)), (1, .inr (3, some 0))]) (st' := [.inl (.int 0), .inr (3, some 0), .inl (.int (nI (k + 1)))]) ⟨dL_all_32, dL_all_33, trivial⟩ rfl rfl ?_
      refine wl_dldE (k := 0) (v := (nI n)) (by omega) rfl d0 dL_all_34 ?_
      refine wl_remE (a := k + 1) (b := n) (by omega) (by omega) (by omega) rfl rfl dL_all_35 ?_
      refine wq_run [(.istore 6, 2)] (pc' := 38) (L' := [(6, .inl (.int (nI ((k + 1) % (n))))), (5, .inl (.int (nI ((k) % (n))))), (4, .inl (.int (nI k))), (2, .inl (.long acc)), (0, .inr (q, some 0)), (1, .inr (3, some 0))]) (st' := []) ⟨dL_all_36, trivial⟩ rfl rfl ?_
      refine wl_lload_n dL_all_38 rfl ?_
      refine wl_ldc2 kc_L_106 dL_all_39 ?_
      refine wl_lmul dL_all_42 ?_
      refine wq_run [(.aload_n 0, 1), (.iload 5, 2), (.iload 6, 2), (.sipush 300, 3), (.iconst 1, 1)] (pc' := 52) (L' := [(6, .inl (.int (nI ((k + 1) % (n))))), (5, .inl (.int (nI ((k) % (n))))), (4, .inl (.int (nI k))), (2, .inl (.long acc)), (0, .inr (q, some 0)), (1, .inr (3, some 0))]) (st' := [.inl (.int 1), .inl (.int 300), .inl (.int (nI ((k + 1) % (n)))), .inl (.int (nI ((k) % (n)))), .inr (q, some 0), .inl (.long (acc * 31))]) ⟨dL_all_43, dL_all_44, dL_all_46, dL_all_48, dL_all_51, trivial⟩ rfl rfl ?_
      refine wl_virtual (M := M_L_all) (uc := 22 * m + 477) (us := 131 * m + 2761) (bc := 5) (bs := 30) (q := q) (As := [.inl (.int (nI ((k) % (n)))), .inl (.int (nI ((k + 1) % (n)))), .inl (.int 300), .inl (.int 1)]) (rest := [.inl (.long (acc * 31))]) hq rfl (ok_X8_arrival _ _) ml_L_53 im_X8_arrival se_X8_arrival (by omega) (qf_arrival (d := d - 1) hq (by omega) I.1 (F_ar I hn n10 hn1 (.inl ⟨rfl, rfl, rfl, rfl⟩))) rfl rfl (Nat.le_of_ble_eq_true rfl) dL_all_52 (fun r9 h9 e9 => ?_) (fun E9 h9 e9 => nomatch e9.1)
      obtain ⟨e9, rfl⟩ := e9
      cases e9
      refine wq_run [(.i2l, 1)] (pc' := 56) (L' := [(6, .inl (.int (nI ((k + 1) % (n))))), (5, .inl (.int (nI ((k) % (n))))), (4, .inl (.int (nI k))), (2, .inl (.long acc)), (0, .inr (q, some 0)), (1, .inr (3, some 0))]) (st' := [.inl (.long (((V_arrival h (nI ((k) % (n))) (nI ((k + 1) % (n))) 300 1)).toInt64)), .inl (.long (acc * 31))]) ⟨dL_all_55, trivial⟩ rfl rfl ?_
      refine wl_ladd dL_all_56 ?_
      refine wl_ldc2 kc_L_106 dL_all_57 ?_
      refine wl_lmul dL_all_60 ?_
      refine wq_run [(.aload_n 0, 1), (.iload 6, 2), (.iload 5, 2), (.sipush 600, 3), (.iconst 2, 1)] (pc' := 70) (L' := [(6, .inl (.int (nI ((k + 1) % (n))))), (5, .inl (.int (nI ((k) % (n))))), (4, .inl (.int (nI k))), (2, .inl (.long acc)), (0, .inr (q, some 0)), (1, .inr (3, some 0))]) (st' := [.inl (.int 2), .inl (.int 600), .inl (.int (nI ((k) % (n)))), .inl (.int (nI ((k + 1) % (n)))), .inr (q, some 0), .inl (.long (((acc * 31) + (((V_arrival h (nI ((k) % (n))) (nI ((k + 1) % (n))) 300 1)).toInt64)) * 31))]) ⟨dL_all_61, dL_all_62, dL_all_64, dL_all_66, dL_all_69, trivial⟩ rfl rfl ?_
      refine wl_virtual (M := M_L_all) (uc := 22 * m + 472) (us := 131 * m + 2731) (bc := 5) (bs := 30) (q := q) (As := [.inl (.int (nI ((k + 1) % (n)))), .inl (.int (nI ((k) % (n)))), .inl (.int 600), .inl (.int 2)]) (rest := [.inl (.long (((acc * 31) + (((V_arrival h (nI ((k) % (n))) (nI ((k + 1) % (n))) 300 1)).toInt64)) * 31))]) hq rfl (ok_X8_arrival _ _) ml_L_53 im_X8_arrival se_X8_arrival (by omega) (qf_arrival (d := d - 1) hq (by omega) I.1 (F_ar I hn n10 hn1 (.inr ⟨rfl, rfl, rfl, rfl⟩))) rfl rfl (Nat.le_of_ble_eq_true rfl) dL_all_70 (fun r9 h9 e9 => ?_) (fun E9 h9 e9 => nomatch e9.1)
      obtain ⟨e9, rfl⟩ := e9
      cases e9
      refine wq_run [(.i2l, 1)] (pc' := 74) (L' := [(6, .inl (.int (nI ((k + 1) % (n))))), (5, .inl (.int (nI ((k) % (n))))), (4, .inl (.int (nI k))), (2, .inl (.long acc)), (0, .inr (q, some 0)), (1, .inr (3, some 0))]) (st' := [.inl (.long (((V_arrival h (nI ((k + 1) % (n))) (nI ((k) % (n))) 600 2)).toInt64)), .inl (.long (((acc * 31) + (((V_arrival h (nI ((k) % (n))) (nI ((k + 1) % (n))) 300 1)).toInt64)) * 31))]) ⟨dL_all_73, trivial⟩ rfl rfl ?_
      refine wl_ladd dL_all_74 ?_
      refine wl_lstore_n dL_all_75 (by decide) ?_
      refine wq_sub [0, 1, 2, 3, 4, 5] (L' := [(2, .inl (.long ((((acc * 31) + (((V_arrival h (nI ((k) % (n))) (nI ((k + 1) % (n))) 300 1)).toInt64)) * 31) + (((V_arrival h (nI ((k + 1) % (n))) (nI ((k) % (n))) 600 2)).toInt64)))), (6, .inl (.int (nI ((k + 1) % (n))))), (5, .inl (.int (nI ((k) % (n))))), (4, .inl (.int (nI k))), (0, .inr (q, some 0)), (1, .inr (3, some 0))]) rfl ?_
      refine wl_lload_n dL_all_76 rfl ?_
      refine wl_ldc2 kc_L_106 dL_all_77 ?_
      refine wl_lmul dL_all_80 ?_
      refine wq_run [(.aload_n 0, 1), (.iload 5, 2), (.iload 6, 2), (.sipush 300, 3), (.iconst 2, 1), (.iconst 1, 1), (.iconst 4, 1)] (pc' := 92) (L' := [(2, .inl (.long ((((acc * 31) + (((V_arrival h (nI ((k) % (n))) (nI ((k + 1) % (n))) 300 1)).toInt64)) * 31) + (((V_arrival h (nI ((k + 1) % (n))) (nI ((k) % (n))) 600 2)).toInt64)))), (6, .inl (.int (nI ((k + 1) % (n))))), (5, .inl (.int (nI ((k) % (n))))), (4, .inl (.int (nI k))), (0, .inr (q, some 0)), (1, .inr (3, some 0))]) (st' := [.inl (.int 4), .inl (.int 1), .inl (.int 2), .inl (.int 300), .inl (.int (nI ((k + 1) % (n)))), .inl (.int (nI ((k) % (n)))), .inr (q, some 0), .inl (.long (((((acc * 31) + (((V_arrival h (nI ((k) % (n))) (nI ((k + 1) % (n))) 300 1)).toInt64)) * 31) + (((V_arrival h (nI ((k + 1) % (n))) (nI ((k) % (n))) 600 2)).toInt64)) * 31))]) ⟨dL_all_81, dL_all_82, dL_all_84, dL_all_86, dL_all_89, dL_all_90, dL_all_91, trivial⟩ rfl rfl ?_
      refine wl_staticH (M := M_L_all) (uc := 22 * m + 460) (us := 131 * m + 2660) (bc := 12) (bs := 71) (As := [.inr (q, some 0), .inl (.int (nI ((k) % (n)))), .inl (.int (nI ((k + 1) % (n)))), .inl (.int 300), .inl (.int 2), .inl (.int 1), .inl (.int 4)]) (rest := [.inl (.long (((((acc * 31) + (((V_arrival h (nI ((k) % (n))) (nI ((k + 1) % (n))) 300 1)).toInt64)) * 31) + (((V_arrival h (nI ((k + 1) % (n))) (nI ((k) % (n))) 600 2)).toInt64)) * 31))]) okH_ride.1 okH_ride.2.1 okH_ride.2.2.1 okH_ride.2.2.2.1 okH_ride.2.2.2.2.1 okH_ride.2.2.2.2.2 ml_L_108 st_L_ride (by omega) (q_ride (d := d - 1) hq (by omega) I.1 (nI ((k) % (n))) (nI ((k + 1) % (n))) 300 2 1 4) rfl rfl (Nat.le_of_ble_eq_true rfl) dL_all_92 (fun r9 h9 e9 => ?_) (fun E9 h9 e9 => nomatch e9.1)
      obtain ⟨e9, rfl⟩ := e9
      cases e9
      refine wq_run [(.i2l, 1)] (pc' := 96) (L' := [(2, .inl (.long ((((acc * 31) + (((V_arrival h (nI ((k) % (n))) (nI ((k + 1) % (n))) 300 1)).toInt64)) * 31) + (((V_arrival h (nI ((k + 1) % (n))) (nI ((k) % (n))) 600 2)).toInt64)))), (6, .inl (.int (nI ((k + 1) % (n))))), (5, .inl (.int (nI ((k) % (n))))), (4, .inl (.int (nI k))), (0, .inr (q, some 0)), (1, .inr (3, some 0))]) (st' := [.inl (.long (((V_ride h (nI ((k) % (n))) (nI ((k + 1) % (n))) 300 2 1 4)).toInt64)), .inl (.long (((((acc * 31) + (((V_arrival h (nI ((k) % (n))) (nI ((k + 1) % (n))) 300 1)).toInt64)) * 31) + (((V_arrival h (nI ((k + 1) % (n))) (nI ((k) % (n))) 600 2)).toInt64)) * 31))]) ⟨dL_all_95, trivial⟩ rfl rfl ?_
      refine wl_ladd dL_all_96 ?_
      refine wl_lstore_n dL_all_97 (by decide) ?_
      refine wq_sub [0, 1, 2, 3, 4, 5] (L' := [(2, .inl (.long ((((((acc * 31) + (((V_arrival h (nI ((k) % (n))) (nI ((k + 1) % (n))) 300 1)).toInt64)) * 31) + (((V_arrival h (nI ((k + 1) % (n))) (nI ((k) % (n))) 600 2)).toInt64)) * 31) + (((V_ride h (nI ((k) % (n))) (nI ((k + 1) % (n))) 300 2 1 4)).toInt64)))), (6, .inl (.int (nI ((k + 1) % (n))))), (5, .inl (.int (nI ((k) % (n))))), (4, .inl (.int (nI k))), (0, .inr (q, some 0)), (1, .inr (3, some 0))]) rfl ?_
      refine wq_run [(.iinc 4 1, 3)] (pc' := 101) (L' := [(4, .inl (.int ((nI k) + 1))), (2, .inl (.long ((((((acc * 31) + (((V_arrival h (nI ((k) % (n))) (nI ((k + 1) % (n))) 300 1)).toInt64)) * 31) + (((V_arrival h (nI ((k + 1) % (n))) (nI ((k) % (n))) 600 2)).toInt64)) * 31) + (((V_ride h (nI ((k) % (n))) (nI ((k + 1) % (n))) 300 2 1 4)).toInt64)))), (6, .inl (.int (nI ((k + 1) % (n))))), (5, .inl (.int (nI ((k) % (n))))), (0, .inr (q, some 0)), (1, .inr (3, some 0))]) (st' := []) ⟨dL_all_98, trivial⟩ rfl rfl ?_
      rw [show nI k + (1 : Int32) = nI (k + 1) from nI_add _ 1]
      refine wl_goto (tgt := 7) dL_all_101 (by decide) ?_
      refine wq_sub [0, 1, 4, 5] (L' := [(4, .inl (.int (nI (k + 1)))), (2, .inl (.long ((((((acc * 31) + (((V_arrival h (nI ((k) % (n))) (nI ((k + 1) % (n))) 300 1)).toInt64)) * 31) + (((V_arrival h (nI ((k + 1) % (n))) (nI ((k) % (n))) 600 2)).toInt64)) * 31) + (((V_ride h (nI ((k) % (n))) (nI ((k + 1) % (n))) 300 2 1 4)).toInt64)))), (0, .inr (q, some 0)), (1, .inr (3, some 0))]) rfl ?_
      exact ih (k + 1) _ _ _ (by omega) (by omega) (by omega)
  refine cl_body rfl rfl (by decide) (Nat.le_of_ble_eq_true rfl) ?_
  refine wl_ldc2 kc_L_104 dL_all_0 ?_
  refine wl_lstore_n dL_all_3 (by decide) ?_
  refine wq_sub [0, 1, 2] (L' := [(2, .inl (.long 17)), (0, .inr (q, some 0)), (1, .inr (3, some 0))]) rfl ?_
  refine wq_run [(.iconst 0, 1), (.istore 4, 2)] (pc' := 7) (L' := [(4, .inl (.int 0)), (2, .inl (.long 17)), (0, .inr (q, some 0)), (1, .inr (3, some 0))]) (st' := []) ⟨dL_all_4, dL_all_5, trivial⟩ rfl rfl ?_
  refine wq_sub [0, 1, 2, 3] (L' := [(4, .inl (.int 0)), (2, .inl (.long 17)), (0, .inr (q, some 0)), (1, .inr (3, some 0))]) rfl ?_
  by_cases hn1 : 1 < n
  · rw [if_pos hn1]
    exact key1 hn1 3 0 _ _ _ (by omega) (by omega) (by omega)
  · rw [if_neg hn1]
    refine wq_run [(.iload 4, 2), (.iconst 3, 1)] (pc' := 10) (L' := [(4, .inl (.int 0)), (2, .inl (.long 17)), (0, .inr (q, some 0)), (1, .inr (3, some 0))]) (st' := [.inl (.int 3), .inl (.int 0)]) ⟨dL_all_7, dL_all_9, trivial⟩ rfl rfl ?_
    refine wl_icmp_ge (tgt := 104) dL_all_10 (by decide) (fun h => absurd h (by decide)) (fun _ => ?_)
    refine wq_run [(.aload_n 1, 1), (.iconst 0, 1)] (pc' := 15) (L' := [(4, .inl (.int 0)), (2, .inl (.long 17)), (0, .inr (q, some 0)), (1, .inr (3, some 0))]) (st' := [.inl (.int 0), .inr (3, some 0)]) ⟨dL_all_13, dL_all_14, trivial⟩ rfl rfl ?_
    refine wl_dldE (k := 0) (v := (nI n)) (by omega) rfl d0 dL_all_15 ?_
    refine wq_run [(.iconst 1, 1)] (pc' := 17) (L' := [(4, .inl (.int 0)), (2, .inl (.long 17)), (0, .inr (q, some 0)), (1, .inr (3, some 0))]) (st' := [.inl (.int 1), .inl (.int (nI n))]) ⟨dL_all_16, trivial⟩ rfl rfl ?_
    refine wl_icmp_le (tgt := 104) dL_all_17 (by decide) (fun _ => ?_) (fun hb17 => absurd ((c_le (nI_toInt (by omega)) (by decide : (1 : Int32).toInt = 1)).mpr (by omega)) hb17)
    refine wq_run [(.iconst 0, 1), (.istore 4, 2)] (pc' := 107) (L' := [(4, .inl (.int 0)), (2, .inl (.long 17)), (0, .inr (q, some 0)), (1, .inr (3, some 0))]) (st' := []) ⟨dL_all_104, dL_all_105, trivial⟩ rfl rfl ?_
    refine wq_sub [0, 1, 2, 3] (L' := [(4, .inl (.int 0)), (2, .inl (.long 17)), (0, .inr (q, some 0)), (1, .inr (3, some 0))]) rfl ?_
    exact key2 (xLS h 11) 0 _ _ _ (by omega) (by omega) (by omega)
theorem c_all {h : Hp} {D : Nat → Int32} (I : IV h D) : ∃ v : Int64, ∀ {g : GT} {d q : Nat} {S : Nat → Int32} {N : Nat}, (q = 1 ∨ q = 2) → 17 ≤ d → CL g M_L_all d 550 3100 [.inr (q, some 0), .inr (3, some 0)] (h, h, D, S, N) (cl_det (.inl (some (.inl (.long v)))) (h, h, D, S, N)) := by
  obtain ⟨n, n10, hn, d0⟩ := I.d0
  exact ⟨_, fun hq hd => c_allN hq hd I n10 hn d0⟩
