def gz_h0 : gz_H := ([], fun _ _ => 0, fun _ _ => 0, fun _ _ => none)
set_option maxRecDepth 100000 in
theorem law_pure (G : gz_G) (hL : G.2.2.2.1 ≤ 384) : gz_g (fL_law_0 G 0 0 103 11473 gz_h0) (fun r _ => r = 1) := sorry
