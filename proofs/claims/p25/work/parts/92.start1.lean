/-! ===== own: what the start gives ===== -/
section FIRST
variable {s : State} {b : Nat}
/-- a length that is given is the length -/
theorem ws_len {t : Term} {args : Array Value} {v : Value} (h : (Term.length t).eval args s none [] s = some v) : ∃ a cell, t.eval args s none [] s = some (.ref a) ∧ s.arrayAt? a = some cell ∧ cell.slots.size < 2147483648 ∧ v = .int (nI cell.slots.size) := by
  simp only [Term.eval, Option.bind_eq_bind] at h
  cases ht : t.eval args s none [] s with
  | none => simp [ht] at h
  | some x =>
    cases x <;> simp [ht] at h
    case ref a =>
      obtain ⟨cell, hcell, h⟩ := Option.bind_eq_some_iff.mp h
      by_cases hn : cell.slots.size < 2147483648
      · rw [if_pos hn] at h; cases h; exact ⟨a, cell, rfl, hcell, hn, rfl⟩
      · rw [if_neg hn] at h; cases h
theorem ws_cls (hts : ∀ w ∈ lw_tbl, w.before #[Value.ref b] s = true) : ∀ k : Nat, ∃ (cC : ClassId) (iS : Nat → Nat), ∀ q : vw_C, vwCl[k]? = some q → u_Kn s q.1 q.2.1 q.2.2 cC iS := by
  intro k
  match k with
  | 0 =>
    obtain ⟨c, i, z⟩ := u_known (C := RJx4a65c) (T := TJx4a65c) (N := 3) (n := 3) hts (fun w hw => (jw_lay w hw).1) (hts (.instantiable RJx4a65c 3) (by decide +kernel))
    exact ⟨c, i, fun q hq => by cases hq; exact z⟩
  | 1 =>
    obtain ⟨c, i, z⟩ := u_known (C := RX0) (T := TX0) (N := 4) (n := 4) hts (fun w hw => (cls_1.2.1 w hw).1) (hts _ in_1)
    exact ⟨c, i, fun q hq => by cases hq; exact z⟩
  | 2 =>
    obtain ⟨c, i, z⟩ := u_known (C := RX1) (T := TX1) (N := 4) (n := 4) hts (fun w hw => (cls_2.2.1 w hw).1) (hts _ in_2)
    exact ⟨c, i, fun q hq => by cases hq; exact z⟩
  | 3 =>
    obtain ⟨c, i, z⟩ := u_known (C := RX2) (T := TX2) (N := 5) (n := 5) hts (fun w hw => (cls_3.2.1 w hw).1) (hts _ in_3)
    exact ⟨c, i, fun q hq => by cases hq; exact z⟩
  | 4 =>
    obtain ⟨c, i, z⟩ := u_known (C := RX3) (T := TX3) (N := 4) (n := 4) hts (fun w hw => (cls_4.2.1 w hw).1) (hts _ in_4)
    exact ⟨c, i, fun q hq => by cases hq; exact z⟩
  | 5 =>
    obtain ⟨c, i, z⟩ := u_known (C := RX4) (T := TX4) (N := 6) (n := 6) hts (fun w hw => (cls_5.2.1 w hw).1) (hts _ in_5)
    exact ⟨c, i, fun q hq => by cases hq; exact z⟩
  | 6 =>
    obtain ⟨c, i, z⟩ := u_known (C := RX5) (T := TX5) (N := 8) (n := 8) hts (fun w hw => (cls_6.2.1 w hw).1) (hts _ in_6)
    exact ⟨c, i, fun q hq => by cases hq; exact z⟩
  | 7 =>
    obtain ⟨c, i, z⟩ := u_known (C := RX6) (T := TX6) (N := 5) (n := 5) hts (fun w hw => (cls_7.2.1 w hw).1) (hts _ in_7)
    exact ⟨c, i, fun q hq => by cases hq; exact z⟩
  | 8 =>
    obtain ⟨c, i, z⟩ := u_known (C := RX7) (T := TX7) (N := 12) (n := 12) hts (fun w hw => (cls_8.2.1 w hw).1) (hts _ in_8)
    exact ⟨c, i, fun q hq => by cases hq; exact z⟩
  | 9 =>
    obtain ⟨c, i, z⟩ := u_known (C := RX8) (T := TX8) (N := 6) (n := 6) hts (fun w hw => (cls_9.2.1 w hw).1) (hts _ in_9)
    exact ⟨c, i, fun q hq => by cases hq; exact z⟩
  | k + 10 => exact ⟨0, fun _ => 0, fun q hq => by simp at hq⟩
def ws_ty (k : Nat) : FieldType := match k with
  | 0 => .int
  | 1 => .boolean
  | 2 => .int
  | 3 => .int
  | _ => .object "java/lang/Object"
theorem ws_prim {ty : FieldType} (hn : ∀ k, ty ≠ .object k) (hk : (Cond.arrayClass ty).before #[Value.ref b] s = true) (hRA : ∀ cA, s.vm.findClass ("[" ++ ty.toString) = some cA → va_RA s cA ty) : ∃ cA, ArrOfT s cA ty ∧ va_RA s cA ty := by
  obtain ⟨c, k, comp, h1, h2, h3⟩ := Cond.arrayClass_spec hk
  exact ⟨c, fun n z => ⟨fun k h => (by cases h), k, h2, comp, h3⟩, hRA c h1⟩
theorem ws_arr (hts : ∀ w ∈ lw_tbl, w.before #[Value.ref b] s = true) : ∀ k : Nat, ∃ cA : ClassId, ArrOfT s cA (ws_ty k) ∧ va_RA s cA (ws_ty k) := by
  intro k
  match k with
  | 0 => exact ws_prim (ty := .int) (fun k e => by cases e) (hts _ arr_int) (fun _ h => h)
  | 1 => exact ws_prim (ty := .boolean) (fun k e => by cases e) (hts _ arr_boolean) (fun _ h => h)
  | 2 => exact ws_prim (ty := .int) (fun k e => by cases e) (hts _ arr_int) (fun _ h => h)
  | 3 => exact ws_prim (ty := .int) (fun k e => by cases e) (hts _ arr_int) (fun _ h => h)
  | k + 4 =>
    obtain ⟨comp, c, k, h1, h2, h3, h4, h5⟩ := Cond.arrayOver_spec (hts (.arrayOver (.object "java/lang/Object")) (by decide +kernel))
    exact ⟨c, fun n z => ⟨fun k h => (by cases h), k, h3, comp, h4⟩, k, comp, h3, h4, h1, h5⟩
theorem ws_str {k : Nat} {tx : String} (h1 : (Cond.stringRef "Connectory" k tx).before #[Value.ref b] s = true) (h2 : (Cond.exactly (.string "Connectory" k) "java/lang/String").before #[Value.ref b] s = true) : ∃ sa, vk_R "Connectory" k tx sa s := by
  obtain ⟨a, c, cell, k, e, -⟩ := Cond.exactly_spec h2
  exact ⟨a, vk_R.of h1 e⟩
theorem ws_SF {p : Program} {m : MethodId} {meth : Method} {c : Code} {L : Nat} {xs : Nat → Int32} (l : Launch) (hflags : l.flags = flags0) (C0 : lw_At p s m meth c b L xs) :
    ∃ (D : va_G) (cA : Nat → ClassId) (ea ca : Nat), (∀ (X : Nat → Prop) (G : Heap), SF (l, s, #[Value.ref b], D, cA, ea, ca, X, G)) ∧ va_X ca 3 (fun j => if j = 0 then 14 else if j = 1 then 30 else 120) s s.heap ∧ ca ≠ b ∧ ca < s.heap.size := by
  obtain ⟨hx, hb, hr, hml, hown, hts, hX, hbl, hlocks, hgv⟩ := id C0
  have hfl := flat_of_before _ hgv
  have hA : ∀ a : Nat, a < s.heap.size → ¬ (fun q : Nat => s.heap.size ≤ q) a := fun a ha h => absurd ha (Nat.not_lt.mpr h)
  have hcl := ws_cls hts
  have har := ws_arr hts
  -- the JDK's empty row
  obtain ⟨ea, heae, heaT⟩ := va_Tof (tm := .static "java/util/ArrayList" "DEFAULTCAPACITY_EMPTY_ELEMENTDATA" "[Ljava/lang/Object;") (ty := .object "java/lang/Object") (N := 0) (f := fun _ => .null) (A := fun q : Nat => s.heap.size ≤ q) (by decide) (hfl _ (by decide +kernel)) (va_eqv (v := .int 0) (hfl (.eq (.length (.static "java/util/ArrayList" "DEFAULTCAPACITY_EMPTY_ELEMENTDATA" "[Ljava/lang/Object;")) (.int 0)) (by decide +kernel)) rfl) (fun j hj => absurd hj (Nat.not_lt_zero j)) hA
  have heaZ := va_Zref (hts (.laysStatic "java/util/ArrayList" "DEFAULTCAPACITY_EMPTY_ELEMENTDATA" "[Ljava/lang/Object;") (by decide +kernel)) (hts (.initialized "java/util/ArrayList") (by decide +kernel)) heae hA
  -- CARBON
  have hlen : (Term.length (.static "Connectory" "CARBON" "[I")).eval #[Value.ref b] s none [] s = some (.int 3) := va_eqv (hfl (.eq (.length (.static "Connectory" "CARBON" "[I")) (.int 3)) (by decide +kernel)) rfl
  have hel : ∀ j : Nat, j < 3 → (Term.elem (.static "Connectory" "CARBON" "[I") (.int (Int32.ofNat j))).eval #[Value.ref b] s none [] s = some (Value.int (if j = 0 then 14 else if j = 1 then 30 else 120)) := by
    intro j hj
    rcases (show j = 0 ∨ j = 1 ∨ j = 2 by omega) with rfl | rfl | rfl
    · exact va_eqv (hfl (.eq (.elem (.static "Connectory" "CARBON" "[I") (.int 0)) (.int 14)) (by decide +kernel)) rfl
    · exact va_eqv (hfl (.eq (.elem (.static "Connectory" "CARBON" "[I") (.int 1)) (.int 30)) (by decide +kernel)) rfl
    · exact va_eqv (hfl (.eq (.elem (.static "Connectory" "CARBON" "[I") (.int 2)) (.int 120)) (by decide +kernel)) rfl
  obtain ⟨ca, hcae, cell, e1, e2, e3, e4, e5, e6, e7⟩ := va_Tof (tm := .static "Connectory" "CARBON" "[I") (ty := .int) (N := 3) (f := fun j => Value.int (if j = 0 then 14 else if j = 1 then 30 else 120)) (A := fun q : Nat => s.heap.size ≤ q) (by decide) (hfl _ (by decide +kernel)) hlen hel hA
  have hcaZ := va_Zref (hts (.laysStatic "Connectory" "CARBON" "[I") (by decide +kernel)) (hts (.initialized "Connectory") (by decide +kernel)) hcae hA
  obtain ⟨ca2, cell2, g1, g2, g3, g4⟩ := ws_len hlen
  cases hcae.symm.trans g1
  obtain ⟨g5, -⟩ := State.arrayAt?_spec g2
  cases e1.symm.trans g5
  have hsz : cell.slots.size = 3 := by
    have g6 : (3 : Int32) = nI cell.slots.size := Value.int.inj g4
    exact (nI_inj (by decide) g3 (show nI 3 = nI cell.slots.size from g6)).symm
  have hne : ca ≠ b := by
    intro e
    have h1 := hfl (.not (.eq (.arg 0) (.static "Connectory" "CARBON" "[I"))) (by decide +kernel)
    have h2 : (Term.arg 0).eval #[Value.ref b] s none [] s = some (.ref b) := rfl
    rw [e] at hcae
    simp [Cond.before, Cond.holds, Cond.value, h2, hcae] at h1
  refine ⟨(fun k => Classical.choose (hcl k), fun k => Classical.choose (Classical.choose_spec (hcl k))), fun k => Classical.choose (har k), ea, ca, fun _ _ => ⟨?_, hts, ⟨fun k q hq => Classical.choose_spec (Classical.choose_spec (hcl k)) q hq, fun k q hk => ?_⟩, ?_, ?_, hcaZ, heaZ, ?_, ?_, hgv, heaT⟩, ⟨cell, e1, e2, e3, hsz, e6⟩, hne, Nat.not_le.mp e7⟩
  · show l.stackTraces = false
    unfold Launch.stackTraces
    rw [hflags]
    decide
  · match k, hk with
    | 0, hk => cases hk; exact Classical.choose_spec (har 0)
    | 1, hk => cases hk; exact Classical.choose_spec (har 1)
    | 2, hk => cases hk; exact Classical.choose_spec (har 0)
    | 3, hk => cases hk; exact Classical.choose_spec (har 0)
    | 4, hk => cases hk; exact Classical.choose_spec (har 4)
    | k + 5, hk => simp [cy_tys] at hk
  · exact vx_Zqof (hts (.laysStatic "java/lang/Throwable" "UNASSIGNED_STACK" "[Ljava/lang/StackTraceElement;") (by decide +kernel)) (hts (.initialized "java/lang/Throwable") (by decide +kernel)) (hfl (.isRef (.static "java/lang/Throwable" "UNASSIGNED_STACK" "[Ljava/lang/StackTraceElement;")) (by decide +kernel)) hA
  · exact vx_Zqof (hts (.laysStatic "java/lang/Throwable" "SUPPRESSED_SENTINEL" "Ljava/util/List;") (by decide +kernel)) (hts (.initialized "java/lang/Throwable") (by decide +kernel)) (hfl (.isRef (.static "java/lang/Throwable" "SUPPRESSED_SENTINEL" "Ljava/util/List;")) (by decide +kernel)) hA
  · intro q hq
    have h1 : q = (59, "no more stops") ∨ q = (74, "a footway leads to another stop, in minutes") ∨ q = (94, "no more trips") ∨ q = (122, "the trip does not go on") ∨ q = (150, "no more notes") ∨ q = (175, "out of range") ∨ q = (211, "this can't be booked") ∨ q = (225, "the booking is not held") ∨ q = (233, "there is no right") ∨ q = (263, "no such firm") ∨ q = (266, "no such stop") ∨ q = (268, "a journey goes to another stop") ∨ q = (271, "no such trip") ∨ q = (273, "no such booking") := by simpa [cy_strs] using hq
    rcases h1 with rfl | rfl | rfl | rfl | rfl | rfl | rfl | rfl | rfl | rfl | rfl | rfl | rfl | rfl
    · exact ws_str (hts (.stringRef "Connectory" 59 "no more stops") (by decide +kernel)) (hfl (.exactly (.string "Connectory" 59) "java/lang/String") (by decide +kernel))
    · exact ws_str (hts (.stringRef "Connectory" 74 "a footway leads to another stop, in minutes") (by decide +kernel)) (hfl (.exactly (.string "Connectory" 74) "java/lang/String") (by decide +kernel))
    · exact ws_str (hts (.stringRef "Connectory" 94 "no more trips") (by decide +kernel)) (hfl (.exactly (.string "Connectory" 94) "java/lang/String") (by decide +kernel))
    · exact ws_str (hts (.stringRef "Connectory" 122 "the trip does not go on") (by decide +kernel)) (hfl (.exactly (.string "Connectory" 122) "java/lang/String") (by decide +kernel))
    · exact ws_str (hts (.stringRef "Connectory" 150 "no more notes") (by decide +kernel)) (hfl (.exactly (.string "Connectory" 150) "java/lang/String") (by decide +kernel))
    · exact ws_str (hts (.stringRef "Connectory" 175 "out of range") (by decide +kernel)) (hfl (.exactly (.string "Connectory" 175) "java/lang/String") (by decide +kernel))
    · exact ws_str (hts (.stringRef "Connectory" 211 "this can't be booked") (by decide +kernel)) (hfl (.exactly (.string "Connectory" 211) "java/lang/String") (by decide +kernel))
    · exact ws_str (hts (.stringRef "Connectory" 225 "the booking is not held") (by decide +kernel)) (hfl (.exactly (.string "Connectory" 225) "java/lang/String") (by decide +kernel))
    · exact ws_str (hts (.stringRef "Connectory" 233 "there is no right") (by decide +kernel)) (hfl (.exactly (.string "Connectory" 233) "java/lang/String") (by decide +kernel))
    · exact ws_str (hts (.stringRef "Connectory" 263 "no such firm") (by decide +kernel)) (hfl (.exactly (.string "Connectory" 263) "java/lang/String") (by decide +kernel))
    · exact ws_str (hts (.stringRef "Connectory" 266 "no such stop") (by decide +kernel)) (hfl (.exactly (.string "Connectory" 266) "java/lang/String") (by decide +kernel))
    · exact ws_str (hts (.stringRef "Connectory" 268 "a journey goes to another stop") (by decide +kernel)) (hfl (.exactly (.string "Connectory" 268) "java/lang/String") (by decide +kernel))
    · exact ws_str (hts (.stringRef "Connectory" 271 "no such trip") (by decide +kernel)) (hfl (.exactly (.string "Connectory" 271) "java/lang/String") (by decide +kernel))
    · exact ws_str (hts (.stringRef "Connectory" 273 "no such booking") (by decide +kernel)) (hfl (.exactly (.string "Connectory" 273) "java/lang/String") (by decide +kernel))
  · intro q hq
    have h1 : q = ("java/lang/IllegalArgumentException", "java/lang/IllegalStateException") ∨ q = ("java/lang/IllegalArgumentException", "java/lang/IndexOutOfBoundsException") ∨ q = ("java/lang/IllegalStateException", "java/lang/IllegalArgumentException") ∨ q = ("java/lang/IllegalStateException", "java/lang/IndexOutOfBoundsException") ∨ q = ("java/lang/IndexOutOfBoundsException", "java/lang/IllegalArgumentException") ∨ q = ("java/lang/IndexOutOfBoundsException", "java/lang/IllegalStateException") := by simpa [cy_ncs] using hq
    rcases h1 with rfl | rfl | rfl | rfl | rfl | rfl
    · exact va_Nc.of (hfl (.not (.castable "java/lang/IllegalArgumentException" "java/lang/IllegalStateException")) (by decide +kernel))
    · exact va_Nc.of (hfl (.not (.castable "java/lang/IllegalArgumentException" "java/lang/IndexOutOfBoundsException")) (by decide +kernel))
    · exact va_Nc.of (hfl (.not (.castable "java/lang/IllegalStateException" "java/lang/IllegalArgumentException")) (by decide +kernel))
    · exact va_Nc.of (hfl (.not (.castable "java/lang/IllegalStateException" "java/lang/IndexOutOfBoundsException")) (by decide +kernel))
    · exact va_Nc.of (hfl (.not (.castable "java/lang/IndexOutOfBoundsException" "java/lang/IllegalArgumentException")) (by decide +kernel))
    · exact va_Nc.of (hfl (.not (.castable "java/lang/IndexOutOfBoundsException" "java/lang/IllegalStateException")) (by decide +kernel))
end FIRST
