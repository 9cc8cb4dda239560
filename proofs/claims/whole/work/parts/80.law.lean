theorem lc_I {X M K E : gz_H → Option (Int32 × gz_H)} {h : gz_H} {P : gz_H → Prop} {Q : Int32 → gz_H → Prop} (H : h.1 = gz_SH) (A : gz_ag X M h P) (k : ∀ h2, P h2 → gz_g (K h2) Q) : gz_g (gz_ck (gz_sh h 0 8 19) (gz_b2 (X h) fun y h1 => gz_ck (gz_sh h1 85 9 29) (gz_b2 (M h1) fun y2 h2 => if y = y2 then K h2 else E h2))) Q := by
  obtain ⟨v, h1, h2, e1, e2, e3, p⟩ := A
  rw [ck_t (sh_t (by rw [H]; rfl)), e1, b2_s, ck_t (sh_t (by rw [e2]; rfl)), e3, b2_s, if_pos rfl]
  exact k h2 p
theorem lc_L {X M : gz_H → Option (Int64 × gz_H)} {K E : gz_H → Option (Int32 × gz_H)} {h : gz_H} {P : gz_H → Prop} {Q : Int32 → gz_H → Prop} (H : h.1 = gz_SH) (A : gz_ag X M h P) (k : ∀ h2, P h2 → gz_g (K h2) Q) : gz_g (gz_ck (gz_sh h 0 8 19) (gz_b2 (X h) fun y h1 => gz_ck (gz_sh h1 85 9 29) (gz_b2 (M h1) fun y2 h2 => if lg_cmp y y2 = 0 then K h2 else E h2))) Q := by
  obtain ⟨v, h1, h2, e1, e2, e3, p⟩ := A
  rw [ck_t (sh_t (by rw [H]; rfl)), e1, b2_s, ck_t (sh_t (by rw [e2]; rfl)), e3, b2_s, if_pos ((cmp_eq v v).mpr rfl)]
  exact k h2 p
theorem sin_t {G : gz_G} {j : Nat} (hj : j < G.2.2.2.1) (hb : j < 2 ^ 31) : gz_sin G (nI j) = true := by
  unfold gz_sin
  rw [nI_clamp hb]
  simp only [Bool.and_eq_true, Bool.not_eq_true', decide_eq_false_iff_not, decide_eq_true_eq]
  exact ⟨nI_pos hb, hj⟩
set_option maxHeartbeats 8000000 in
set_option maxRecDepth 100000 in
theorem law_loop (G : gz_G) (hL : G.2.2.2.1 ≤ 384) : ∀ (n j : Nat) (h : gz_H), gz_Iv h → j ≤ 64 → 65 ≤ j + n → gz_g (fL_law_18 G 0 0 103 11473 n 0 85 (nI (6 * j)) h) (fun r _ => r = 1) := by
  intro n
  induction n with
  | zero => intro j h I h1 h2; omega
  | succ n ih =>
    intro j h I h1 h2
    have H := I.1.1.1
    rw [fL_law_18]
    have eL : (Int32.ofNat G.2.2.2.1 - (6 : Int32) < nI (6 * j)) ↔ G.2.2.2.1 < 6 * j + 6 := by
      rw [Int32.lt_iff_toInt_lt, nI_toInt (by omega), show (6 : Int32) = nI 6 from rfl, show Int32.ofNat G.2.2.2.1 = nI G.2.2.2.1 from rfl, pk_sub_toInt (by omega) (by omega)]
      omega
    by_cases e : G.2.2.2.1 < 6 * j + 6
    · rw [if_pos (eL.mpr e), ck_t (by rw [H]; rfl)]
      rfl
    · rw [if_neg (fun z => e (eL.mp z)), ck_t (sin_t (by omega) (by omega)), lt_d]
      have nx : ∀ h2, gz_Iv h2 → gz_g (fL_law_1352 G 0 0 103 11473 (fun z0 z1 z2 zh => fL_law_18 G 0 0 103 11473 n z0 z1 z2 zh) 0 85 (nI (6 * j)) h2) (fun r _ => r = 1) := by
        intro h2 J
        unfold fL_law_1352
        have := ih (j + 1) h2 J (by omega) (by omega)
        rw [show nI (6 * j) + 6 = nI (6 * (j + 1)) from by rw [show (6 : Int32) = nI 6 from rfl, nI_add]; rfl]
        exact this
      have s1 : nI (6 * j) + (1 : Int32) = nI (6 * j + 1) := nI_1 _
      have s2 : nI (6 * j) + (2 : Int32) = nI (6 * j + 2) := by rw [show (2 : Int32) = nI 2 from rfl, nI_add]
      have s3 : nI (6 * j) + (3 : Int32) = nI (6 * j + 3) := by rw [show (3 : Int32) = nI 3 from rfl, nI_add]
      have s4 : nI (6 * j) + (4 : Int32) = nI (6 * j + 4) := by rw [show (4 : Int32) = nI 4 from rfl, nI_add]
      have s5 : nI (6 * j) + (5 : Int32) = nI (6 * j + 5) := by rw [show (5 : Int32) = nI 5 from rfl, nI_add]
      have t1 := sin_t (G := G) (j := 6 * j + 1) (by omega) (by omega)
      have t2 := sin_t (G := G) (j := 6 * j + 2) (by omega) (by omega)
      have t3 := sin_t (G := G) (j := 6 * j + 3) (by omega) (by omega)
      have t4 := sin_t (G := G) (j := 6 * j + 4) (by omega) (by omega)
      have t5 := sin_t (G := G) (j := 6 * j + 5) (by omega) (by omega)
      rw [s1, s2, s3, s4, s5]
      generalize G.2.2.2.2.1 (nI (6 * j)).toNatClampNeg &&& (63 : Int32) = y
      by_cases c0 : y = (0 : Int32)
      · rw [if_pos c0, ck_t t1, ck_t t2]
        exact lc_I H (op_row I _ _) nx
      rw [if_neg c0]
      by_cases c1 : y = (1 : Int32)
      · rw [if_pos c1, ck_t t1, ck_t t2, ck_t t3]
        exact lc_I H (op_lay I _ _ _) nx
      rw [if_neg c1]
      by_cases c2 : y = (2 : Int32)
      · rw [if_pos c2, ck_t t1, ck_t t2]
        exact lc_I H (op_at I _ _) nx
      rw [if_neg c2]
      by_cases c3 : y = (3 : Int32)
      · rw [if_pos c3, ck_t t1]
        exact lc_I H (op_tear I _) nx
      rw [if_neg c3]
      by_cases c4 : y = (4 : Int32)
      · rw [if_pos c4, ck_t t1, ck_t t2, ck_t t3, ck_t t4, ck_t t5]
        exact lc_I H (op_copy I _ _ _ _ _) nx
      rw [if_neg c4]
      by_cases c5 : y = (5 : Int32)
      · rw [if_pos c5, ck_t t1]
        exact lc_I H (op_mean I _) nx
      rw [if_neg c5]
      by_cases c6 : y = (6 : Int32)
      · rw [if_pos c6, ck_t t1, ck_t t2]
        exact lc_I H (op_text I _ _) nx
      rw [if_neg c6]
      by_cases c7 : y = (7 : Int32)
      · rw [if_pos c7, ck_t t1, ck_t t2, ck_t t3]
        exact lc_I H (op_put I _ _ _) nx
      rw [if_neg c7]
      by_cases c8 : y = (8 : Int32)
      · rw [if_pos c8, ck_t t1]
        exact lc_I H (op_fault I _) nx
      rw [if_neg c8]
      by_cases c9 : y = (9 : Int32)
      · rw [if_pos c9, ck_t t1]
        exact lc_I H (op_flock I _) nx
      rw [if_neg c9]
      by_cases c10 : y = (10 : Int32)
      · rw [if_pos c10, ck_t t1, ck_t t2]
        exact lc_I H (op_goose I _ _) nx
      rw [if_neg c10]
      by_cases c11 : y = (11 : Int32)
      · rw [if_pos c11, ck_t t1, ck_t t2]
        exact lc_I H (op_mark I _ _) nx
      rw [if_neg c11]
      by_cases c12 : y = (12 : Int32)
      · rw [if_pos c12, ck_t t1]
        exact lc_I H (op_place I _) nx
      rw [if_neg c12]
      by_cases c13 : y = (13 : Int32)
      · rw [if_pos c13, ck_t t1, ck_t t2]
        exact lc_I H (op_give I _ _) nx
      rw [if_neg c13]
      by_cases c14 : y = (14 : Int32)
      · rw [if_pos c14, ck_t t1]
        exact lc_I H (op_fright I _) nx
      rw [if_neg c14]
      by_cases c15 : y = (15 : Int32)
      · rw [if_pos c15, ck_t t1, ck_t t2]
        exact lc_I H (op_mix I _ _) nx
      rw [if_neg c15]
      by_cases c16 : y = (16 : Int32)
      · rw [if_pos c16, ck_t t1, ck_t t2]
        exact lc_I H (op_eat I _ _) nx
      rw [if_neg c16]
      by_cases c17 : y = (17 : Int32)
      · rw [if_pos c17, ck_t t1]
        exact lc_I H (op_undo I _) nx
      rw [if_neg c17]
      by_cases c18 : y = (18 : Int32)
      · rw [if_pos c18, ck_t t1]
        exact lc_I H (op_keep I _) nx
      rw [if_neg c18]
      by_cases c19 : y = (19 : Int32)
      · rw [if_pos c19, ck_t t1]
        exact lc_I H (op_on I _) nx
      rw [if_neg c19]
      by_cases c20 : y = (20 : Int32)
      · rw [if_pos c20, ck_t t1, ck_t t2]
        exact lc_I H (op_tells I _ _) nx
      rw [if_neg c20]
      by_cases c21 : y = (21 : Int32)
      · rw [if_pos c21, ck_t t1]
        exact lc_I H (op_told I _) nx
      rw [if_neg c21]
      by_cases c22 : y = (22 : Int32)
      · rw [if_pos c22, ck_t t1]
        exact lc_I H (op_holders I _) nx
      rw [if_neg c22]
      by_cases c23 : y = (23 : Int32)
      · rw [if_pos c23]
        exact lc_I H (op_lost I) nx
      rw [if_neg c23]
      by_cases c24 : y = (24 : Int32)
      · rw [if_pos c24]
        exact lc_I H (op_mute I) nx
      rw [if_neg c24]
      by_cases c25 : y = (25 : Int32)
      · rw [if_pos c25, ck_t t1, ck_t t2, ck_t t3]
        exact lc_I H (op_walk I _ _ _) nx
      rw [if_neg c25]
      by_cases c26 : y = (26 : Int32)
      · rw [if_pos c26, ck_t t1]
        exact lc_I H (op_crew I _) nx
      rw [if_neg c26]
      by_cases c27 : y = (27 : Int32)
      · rw [if_pos c27, ck_t t1]
        exact lc_I H (op_least I _) nx
      rw [if_neg c27]
      by_cases c28 : y = (28 : Int32)
      · rw [if_pos c28]
        exact lc_I H (op_risk I) nx
      rw [if_neg c28]
      by_cases c29 : y = (29 : Int32)
      · rw [if_pos c29]
        exact lc_I H (op_safe I) nx
      rw [if_neg c29]
      by_cases c30 : y = (30 : Int32)
      · rw [if_pos c30, ck_t t1]
        exact lc_I H (op_share I _) nx
      rw [if_neg c30]
      by_cases c31 : y = (31 : Int32)
      · rw [if_pos c31, ck_t t1, ck_t t2]
        exact lc_I H (op_held I _ _) nx
      rw [if_neg c31]
      by_cases c32 : y = (32 : Int32)
      · rw [if_pos c32, ck_t t1, ck_t t2]
        exact lc_I H (op_kinds I _ _) nx
      rw [if_neg c32]
      by_cases c33 : y = (33 : Int32)
      · rw [if_pos c33, ck_t t1, ck_t t2]
        exact lc_I H (op_odds I _ _) nx
      rw [if_neg c33]
      by_cases c34 : y = (34 : Int32)
      · rw [if_pos c34, ck_t t1]
        exact lc_I H (op_mid I _) nx
      rw [if_neg c34]
      by_cases c35 : y = (35 : Int32)
      · rw [if_pos c35, ck_t t1, ck_t t2]
        exact lc_I H (op_lots I _ _) nx
      rw [if_neg c35]
      by_cases c36 : y = (36 : Int32)
      · rw [if_pos c36]
        exact lc_I H (op_asked I) nx
      rw [if_neg c36]
      by_cases c37 : y = (37 : Int32)
      · rw [if_pos c37]
        exact lc_L H (op_upper I) nx
      rw [if_neg c37]
      by_cases c38 : y = (38 : Int32)
      · rw [if_pos c38]
        exact lc_L H (op_lower I) nx
      rw [if_neg c38]
      by_cases c39 : y = (39 : Int32)
      · rw [if_pos c39, ck_t t1]
        exact lc_I H (op_count I _) nx
      rw [if_neg c39]
      by_cases c40 : y = (40 : Int32)
      · rw [if_pos c40]
        exact lc_I H (op_finding I) nx
      rw [if_neg c40]
      by_cases c41 : y = (41 : Int32)
      · rw [if_pos c41, ck_t t1]
        exact lc_I H (op_findings I _) nx
      rw [if_neg c41]
      by_cases c42 : y = (42 : Int32)
      · rw [if_pos c42]
        exact lc_L H (op_digest I) nx
      rw [if_neg c42]
      exact nx h I
set_option maxRecDepth 100000 in
theorem law_pure (G : gz_G) (hL : G.2.2.2.1 ≤ 384) : gz_g (fL_law_0 G 0 0 103 11473 gz_h0) (fun r _ => r = 1) := by
  obtain ⟨h, I, e⟩ := op_init G
  rw [e]
  exact law_loop G hL gz_fu 0 h I (by omega) (by show 65 ≤ 0 + 100000; omega)
