/-! ===== own: the JDK's lists, as the class calls them ===== -/
section LISTS2
variable {g : GT} {d : Nat} {h : Hp}
theorem c_size {s : Nat} (hd : 1 ≤ d) (hs : cy_kd s = 6) : Ctr g M_Jx4a65c_size_8abf5 d 0 0 [.inr (s, some 0)] h (cy_det (.inl (some (.inl (.int (nI (xLS h s)))))) h) := jd_size hd hs
theorem c_get {s i : Nat} (hd : 6 ≤ d) (hs : cy_kd s = 6) (hi : i < xLS h s) {x : Int32} (hx : x = nI i) : Ctr g M_Jx4a65c_get_915e3 d 0 0 [.inr (s, some 0), .inl (.int x)] h (cy_det (.inl (some (.inr (cy_es (s + 2), some (xLE h s i))))) h) := jd_get hd hs hi hx
theorem c_add {s e : Nat} (hd : 12 ≤ d) (hs : cy_kd s = 6) (hn : xLS h s < 30) : Ctr g M_Jx4a65c_add_9ea2d d 1 45 [.inr (s, some 0), .inr (cy_es (s + 2), some e)] h (cy_det (.inl (some (.inl (.int 1)))) (H_add h s e)) := jd_add hd hs hn
theorem c_fill {s i : Nat} (hd : 1 ≤ d) (hs : cy_kd s = 2) (hl : cy_ln h s ≤ 3584) (v : Int32) : Ctr g M_J7_fill_53178 d 0 0 [.inr (s, some i), .inl (.int v)] h (cy_det (.inl none) (H_fill h s i v)) := jd_fill hd hs hl v
end LISTS2
