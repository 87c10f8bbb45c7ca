/-! ===== own: the reference's search leaves the number of bookings ===== -/
theorem fb_readies {v : Int32} {H : Hp} {k : Int32} (p : xFI H 1031 0 = v) : xFI (F_X9_readies H k) 1031 0 = v := by
  have outer : ∀ (fu : Nat) (h2 : Hp) (s : Nat), xFI h2 1031 0 = v → xFI (L_X9_readies_2 H k fu h2 s) 1031 0 = v := by
    intro fu
    induction fu with
    | zero => intro h2 s p2; first | exact p | exact p2
    | succ fu ih =>
      intro h2 s p2
      rw [L_X9_readies_2_s]
      unfold B_X9_readies_2
      split
      · exact p2
      · have key : ∀ (f : Nat) (le : Int32) (o : Nat), xFI (L_X9_readies_32 H k h2 s (L_X9_readies_2 H k fu) (K_X9_readies_32 H k h2 s (L_X9_readies_2 H k fu)) f le o) 1031 0 = v := by
          intro f
          induction f with
          | zero => intro le o; first | exact p | exact p2
          | succ f ih2 =>
            intro le o
            rw [L_X9_readies_32_s]
            unfold B_X9_readies_32
            split
            · exact ih _ _ p2
            · exact ih2 _ _
        exact key _ _ _
  exact outer _ _ _ p
theorem fb_rides {v : Int32} {H : Hp} {k t d : Int32} (p : xFI H 1031 0 = v) : xFI (F_X9_rides H k t d) 1031 0 = v := by
  have outer : ∀ (fu : Nat) (h3 : Hp) (i : Nat), xFI h3 1031 0 = v → xFI (L_X9_rides_3 H k t d fu h3 i) 1031 0 = v := by
    intro fu
    induction fu with
    | zero => intro h3 i p2; first | exact p | exact p2
    | succ fu ih =>
      intro h3 i p2
      rw [L_X9_rides_3_s]
      unfold B_X9_rides_3
      split
      · exact p2
      · have key : ∀ (f : Nat) (h6 : Hp) (j : Nat), xFI h6 1031 0 = v → xFI (L_X9_rides_66 H k t d h3 i (L_X9_rides_3 H k t d fu) (K_X9_rides_66 H k t d h3 i (L_X9_rides_3 H k t d fu)) f h6 j) 1031 0 = v := by
          intro f
          induction f with
          | zero => intro h6 j p3; first | exact p | exact p2 | exact p3
          | succ f ih2 =>
            intro h6 j p3
            rw [L_X9_rides_66_s]
            unfold B_X9_rides_66
            split
            · exact ih _ _ p3
            · split
              · exact ih _ _ p3
              · exact ih2 _ _ p3
        exact key _ _ _ p2
  exact outer _ _ _ p
theorem fb_ahead {v : Int32} {H : Hp} {k : Int32} (p : xFI H 1031 0 = v) : xFI (F_X9_aheadOf H k).2 1031 0 = v := by
  have key : ∀ (fu : Nat) (h1 : Hp) (ah : Int32) (s : Nat), xFI h1 1031 0 = v → xFI (L_X9_aheadOf_102 H k fu h1 ah s).2 1031 0 = v := by
    intro fu
    induction fu with
    | zero => intro h1 ah s p2; first | exact p2 | exact p
    | succ fu ih =>
      intro h1 ah s p2
      rw [L_X9_aheadOf_102_s]
      unfold B_X9_aheadOf_102
      split
      · exact p2
      · split
        · split
          · exact ih _ _ _ p2
          · split
            · exact ih _ _ _ p2
            · exact ih _ _ _ p2
        · exact p2
  unfold F_X9_aheadOf
  split
  · exact p
  · exact key _ _ _ _ p
theorem fb_reaches {v : Int32} {H : Hp} {a ti n : Int32} (p : xFI H 1031 0 = v) : xFI (F_X9_reaches H a ti n) 1031 0 = v := by
  have l105 : ∀ (fu : Nat) (h105 : Hp) (k : Nat), xFI h105 1031 0 = v → xFI (L_X9_reaches_105 H a ti n fu h105 k) 1031 0 = v := by
    intro fu
    induction fu with
    | zero => intro h105 k p2; exact p2
    | succ fu ih =>
      intro h105 k p2
      rw [L_X9_reaches_105_s]
      unfold B_X9_reaches_105
      generalize L_X9_reaches_105 H a ti n fu = rec105 at ih ⊢
      split
      · exact p2
      · have l114 : ∀ (f : Nat) (h114 : Hp) (t : Nat), xFI h114 1031 0 = v → xFI (L_X9_reaches_114 H a ti n h105 k rec105 (K_X9_reaches_114 H a ti n h105 k rec105) f h114 t) 1031 0 = v := by
          intro f
          induction f with
          | zero => intro h114 t p3; exact p3
          | succ f ih2 =>
            intro h114 t p3
            rw [L_X9_reaches_114_s]
            unfold B_X9_reaches_114
            generalize L_X9_reaches_114 H a ti n h105 k rec105 (K_X9_reaches_114 H a ti n h105 k rec105) f = rec114 at ih2 ⊢
            split
            · exact ih _ _ (fb_readies p3)
            · have l132 : ∀ (f3 : Nat) (h132 : Hp) (dy : Int32), xFI h132 1031 0 = v → xFI (L_X9_reaches_132 H a ti n h105 k rec105 h114 t rec114 (K_X9_reaches_132 H a ti n h105 k rec105 h114 t rec114) f3 h132 dy) 1031 0 = v := by
                intro f3
                induction f3 with
                | zero => intro h132 dy p4; exact p4
                | succ f3 ih3 =>
                  intro h132 dy p4
                  rw [L_X9_reaches_132_s]
                  unfold B_X9_reaches_132
                  split
                  · exact ih2 _ _ p4
                  · split
                    · exact ih3 _ _ p4
                    · exact ih3 _ _ (fb_rides p4)
              exact l132 _ _ _ p3
        exact l114 _ _ _ p2
  have l42 : ∀ (fu : Nat) (h42 : Hp) (s : Nat), xFI h42 1031 0 = v → xFI (L_X9_reaches_42 H a ti n (K_X9_reaches_42 H a ti n) fu h42 s) 1031 0 = v := by
    intro fu
    induction fu with
    | zero => intro h42 s p2; exact p2
    | succ fu ih =>
      intro h42 s p2
      rw [L_X9_reaches_42_s]
      unfold B_X9_reaches_42
      split
      · exact l105 _ _ _ p2
      · exact ih _ _ p2
  have l8 : ∀ (fu : Nat) (h8 : Hp) (s : Nat), xFI h8 1031 0 = v → xFI (L_X9_reaches_8 H a ti n (K_X9_reaches_8 H a ti n) fu h8 s) 1031 0 = v := by
    intro fu
    induction fu with
    | zero => intro h8 s p2; exact p2
    | succ fu ih =>
      intro h8 s p2
      rw [L_X9_reaches_8_s]
      unfold B_X9_reaches_8
      split
      · exact l42 _ _ _ p2
      · exact ih _ _ p2
  exact l8 _ _ _ p
theorem fb_findsRide {v : Int32} {H : Hp} {k be : Int32} (p : xFI H 1031 0 = v) : xFI (F_X9_findsRide H k be) 1031 0 = v := by
  have l5 : ∀ (fu : Nat) (h5 : Hp) (ha : Int32) (t : Nat), xFI h5 1031 0 = v → xFI (L_X9_findsRide_5 H k be fu h5 ha t) 1031 0 = v := by
    intro fu
    induction fu with
    | zero => intro h5 ha t p2; exact p2
    | succ fu ih =>
      intro h5 ha t p2
      rw [L_X9_findsRide_5_s]
      unfold B_X9_findsRide_5
      generalize L_X9_findsRide_5 H k be fu = rec5 at ih ⊢
      split
      · exact p2
      · split
        · have l30 : ∀ (f : Nat) (h30 : Hp) (hb dy : Int32), xFI h30 1031 0 = v → xFI (L_X9_findsRide_30 H k be h5 ha t rec5 (K_X9_findsRide_30 H k be h5 ha t rec5) f h30 hb dy) 1031 0 = v := by
            intro f
            induction f with
            | zero => intro h30 hb dy p3; exact p3
            | succ f ih2 =>
              intro h30 hb dy p3
              rw [L_X9_findsRide_30_s]
              unfold B_X9_findsRide_30
              generalize L_X9_findsRide_30 H k be h5 ha t rec5 (K_X9_findsRide_30 H k be h5 ha t rec5) f = rec30 at ih2 ⊢
              split
              · exact ih _ _ _ p3
              · split
                · have l52 : ∀ (f3 : Nat) (h52 : Hp) (hc : Int32) (nn : Nat), xFI h52 1031 0 = v → xFI (L_X9_findsRide_52 H k be h5 ha t rec5 h30 hb dy rec30 (K_X9_findsRide_52 H k be h5 ha t rec5 h30 hb dy rec30) f3 h52 hc nn) 1031 0 = v := by
                    intro f3
                    induction f3 with
                    | zero => intro h52 hc nn p4; exact p4
                    | succ f3 ih3 =>
                      intro h52 hc nn p4
                      rw [L_X9_findsRide_52_s]
                      unfold B_X9_findsRide_52
                      split
                      · exact ih2 _ _ _ p4
                      · split
                        · split
                          · exact ih2 _ _ _ p4
                          · repeat' split
                            all_goals exact ih3 _ _ _ p4
                        · exact ih2 _ _ _ p4
                  exact l52 _ _ _ _ p3
                · exact ih _ _ _ p3
          exact l30 _ _ _ _ p2
        · exact p2
  exact l5 _ _ _ _ p
/-- finding a journey leaves the number of bookings -/
theorem finds_b {h : Hp} {a b ti : Int32} {n : Nat} : xFI (F_X9_finds h a b ti n).2 1031 0 = xFI h 1031 0 := by
  have l167 : ∀ (fu : Nat) (h167 : Hp) (az : Int32), xFI h167 1031 0 = xFI h 1031 0 → xFI (L_X9_finds_167 h a b ti n (K_X9_finds_167 h a b ti n) fu h167 az).2 1031 0 = xFI h 1031 0 := by
    intro fu
    induction fu with
    | zero => intro h167 az p2; exact p2
    | succ fu ih =>
      intro h167 az p2
      rw [L_X9_finds_167_s]
      unfold B_X9_finds_167
      split
      · exact p2
      · split
        · exact ih _ _ (fb_findsRide p2)
        · exact ih _ _ (fb_ahead (fb_findsRide p2))
  have l83 : ∀ (fu : Nat) (h83 : Hp) (az : Int32) (s : Nat), xFI h83 1031 0 = xFI h 1031 0 → xFI (L_X9_finds_83 h a b ti n (K_X9_finds_163 h a b ti n) fu h83 az s).2 1031 0 = xFI h 1031 0 := by
    intro fu
    induction fu with
    | zero => intro h83 az s p2; exact p2
    | succ fu ih =>
      intro h83 az s p2
      rw [L_X9_finds_83_s]
      unfold B_X9_finds_83
      split
      · exact l167 _ _ _ p2
      · split
        · exact ih _ _ _ p2
        · exact l167 _ _ _ p2
  have r : xFI (F_X9_reaches h a ti (nI n)) 1031 0 = xFI h 1031 0 := fb_reaches rfl
  unfold F_X9_finds
  split
  · exact r
  · split
    · exact l167 _ _ _ r
    · exact l83 _ _ _ _ r
