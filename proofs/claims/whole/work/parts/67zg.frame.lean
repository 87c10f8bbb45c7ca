/-! ===== own: the reference's search leaves the number of bookings ===== -/
theorem fb_readies {v : Int32} {H : Hp} {k : Int32} (p : xFI H 1031 0 = v) : xFI (F_X9_readies H k) 1031 0 = v := by
  have outer : ∀ (fu : Nat) (h2 : Hp) (s : Nat), xFI h2 1031 0 = v → xFI (L_X9_readies_2 H k fu h2 s) 1031 0 = v := by
    intro fu
    induction fu with
    | zero => intro h2 s p2; first | exact p | exact p2
    | succ fu ih =>
      intro h2 s p2
      rw [L_X9_readies_2_s]
      unfold B_X9_readies_2
      split
      · exact p2
      · have key : ∀ (f : Nat) (le : Int32) (o : Nat), xFI (L_X9_readies_32 H k h2 s (L_X9_readies_2 H k fu) (K_X9_readies_32 H k h2 s (L_X9_readies_2 H k fu)) f le o) 1031 0 = v := by
          intro f
          induction f with
          | zero => intro le o; first | exact p | exact p2
          | succ f ih2 =>
            intro le o
            rw [L_X9_readies_32_s]
            unfold B_X9_readies_32
            split
            · exact ih _ _ p2
            · exact ih2 _ _
        exact key _ _ _
  exact outer _ _ _ p
theorem fb_rides {v : Int32} {H : Hp} {k t d : Int32} (p : xFI H 1031 0 = v) : xFI (F_X9_rides H k t d) 1031 0 = v := by
  have outer : ∀ (fu : Nat) (h3 : Hp) (i : Nat), xFI h3 1031 0 = v → xFI (L_X9_rides_3 H k t d fu h3 i) 1031 0 = v := by
    intro fu
    induction fu with
    | zero => intro h3 i p2; first | exact p | exact p2
    | succ fu ih =>
      intro h3 i p2
      rw [L_X9_rides_3_s]
      unfold B_X9_rides_3
      split
      · exact p2
      · have key : ∀ (f : Nat) (h6 : Hp) (j : Nat), xFI h6 1031 0 = v → xFI (L_X9_rides_66 H k t d h3 i (L_X9_rides_3 H k t d fu) (K_X9_rides_66 H k t d h3 i (L_X9_rides_3 H k t d fu)) f h6 j) 1031 0 = v := by
          intro f
          induction f with
          | zero => intro h6 j p3; first | exact p | exact p2 | exact p3
          | succ f ih2 =>
            intro h6 j p3
            rw [L_X9_rides_66_s]
            unfold B_X9_rides_66
            split
            · exact ih _ _ p3
            · split
              · exact ih _ _ p3
              · exact ih2 _ _ p3
        exact key _ _ _ p2
  exact outer _ _ _ p
theorem fb_ahead {v : Int32} {H : Hp} {k : Int32} (p : xFI H 1031 0 = v) : xFI (F_X9_aheadOf H k).2 1031 0 = v := by
  have key : ∀ (fu : Nat) (h1 : Hp) (ah : Int32) (s : Nat), xFI h1 1031 0 = v → xFI (L_X9_aheadOf_102 H k fu h1 ah s).2 1031 0 = v := by
    intro fu
    induction fu with
    | zero => intro h1 ah s p2; first | exact p2 | exact p
    | succ fu ih =>
      intro h1 ah s p2
      rw [L_X9_aheadOf_102_s]
      unfold B_X9_aheadOf_102
      split
      · exact p2
      · split
        · split
          · exact ih _ _ _ p2
          · split
            · exact ih _ _ _ p2
            · exact ih _ _ _ p2
        · exact p2
  unfold F_X9_aheadOf
  split
  · exact p
  · exact key _ _ _ _ p
