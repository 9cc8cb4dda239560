theorem m_tx34 {t : Nat} (ht : t < 4) (x : Int32) : ∀ (m i : Nat) (h : gz_H), i ≤ 80 → 80 < i + m → gz_La h → fX9_text_34 m 85 (nI t) x (nI i) h = some (x, uF h 94 (fun k => if 80 * t + i ≤ k ∧ k < 80 * t + 80 then 32 else h.2.1 94 k)) := by
  intro m
  induction m with
  | zero => intro i h h1 h2; omega
  | succ m ih =>
    intro i h h1 h2 H
    rw [fX9_text_34]
    by_cases e : i = 80
    · subst e
      rw [if_pos (by decide)]
      refine congrArg some (congrArg (Prod.mk x) ?_)
      refine (uF_self (h := h) (a := 94)).symm.trans (uF_cg fun k => ?_)
      rw [if_neg (by omega)]
    · have H1 : gz_La (uI h 94 (80 * t + i) 32) := H.of rfl rfl
      rw [if_neg (show ¬ (80 : Int32) ≤ nI i from nI_ge (a := i) (b := 80) (by omega) (by decide)), ck_t (H.ck rfl), H.rf 85 10 94 (by decide), br_s, show (80 : Int32) = nI 80 from rfl, n_mul, ck_t (inb_nI (k := 10) (n := 320) (H.sh rfl) (by omega) (by decide)), nI_clamp (by omega), lt_d, nI_1, ih (i + 1) _ (by omega) (by omega) H1]
      refine congrArg some (congrArg (Prod.mk x) ?_)
      rw [uF_uI]
      refine uF_cg fun k => ?_
      rw [uI_I]
      by_cases hk : k = 80 * t + i
      · rw [if_neg (by omega), if_pos ⟨rfl, hk⟩, if_pos (by omega)]
      · have hne : ¬ ((94 : Nat) = 94 ∧ k = 80 * t + i) := fun z => hk z.2
        rw [if_neg hne]
        by_cases h9 : 80 * t + (i + 1) ≤ k ∧ k < 80 * t + 80
        · rw [if_pos h9, if_pos (by omega)]
        · rw [if_neg h9, if_neg (by omega)]
theorem tx_new {h : gz_H} (I : gz_In h) {r n : Nat} (hr : r < 4) (hn : n ≤ 80) (f g : Nat → Int32) (hf : ∀ k, k < 80 → f k = 32) (hg : ∀ k, g k = if 80 * r ≤ k ∧ k < 80 * r + 80 then 32 else h.2.1 94 k) : gz_St h (uF (uI (uI (uF h (12 + r) f) 16 r (nI n)) 93 r (nI n)) 94 g) := by
  obtain ⟨H, F, Rw, Tx, Sc⟩ := I
  have off : ∀ a k, (a < 12 ∨ 16 < a) → a ≠ 93 → a ≠ 94 → (uF (uI (uI (uF h (12 + r) f) 16 r (nI n)) 93 r (nI n)) 94 g).2.1 a k = h.2.1 a k := fun a k h1 h2 h3 => by rw [uF_I, if_neg h3, uI_I, if_neg (by omega), uI_I, if_neg (by omega), uF_I, if_neg (by omega)]
  refine ⟨⟨H.of rfl rfl, F.cg (fun a k ha => off a k (by omega) (by omega) (by omega)), Rw.cg (fun a k ha => off a k (by omega) (by omega) (by omega)), ?_, Sc.cg (fun a k ha => off a k (by omega) (by omega) (by omega)) rfl⟩, rfl, fun a k ha => by unfold gz_ff at ha; exact off a k (by omega) (by omega) (by omega)⟩
  intro r' hr'
  obtain ⟨t1, t2, t3⟩ := Tx r' hr'
  have r9 : (uF (uI (uI (uF h (12 + r) f) 16 r (nI n)) 93 r (nI n)) 94 g).2.1 16 r' = if r' = r then nI n else h.2.1 16 r' := by
    rw [uF_I, if_neg (by omega), uI_I, if_neg (by omega), uI_I]
    by_cases e : r' = r
    · rw [if_pos ⟨rfl, e⟩, if_pos e]
    · rw [if_neg (fun q => e q.2), if_neg e, uF_I, if_neg (by omega)]
  have r91 : (uF (uI (uI (uF h (12 + r) f) 16 r (nI n)) 93 r (nI n)) 94 g).2.1 93 r' = if r' = r then nI n else h.2.1 93 r' := by
    rw [uF_I, if_neg (by omega), uI_I]
    by_cases e : r' = r
    · rw [if_pos ⟨rfl, e⟩, if_pos e]
    · rw [if_neg (fun q => e q.2), if_neg e, uI_I, if_neg (by omega), uF_I, if_neg (by omega)]
  rw [r9, r91]
  refine ⟨?_, ?_, fun k hk => ?_⟩
  · by_cases e : r' = r
    · rw [if_pos e, if_pos e]
    · rw [if_neg e, if_neg e]; exact t1
  · by_cases e : r' = r
    · rw [if_pos e]; exact Or.inr ⟨n, hn, rfl⟩
    · rw [if_neg e]; exact t2
  · rw [uF_I, if_neg (by omega), uI_I, if_neg (by omega), uI_I, if_neg (by omega), uF_I, uF_I, if_pos rfl, hg]
    by_cases e : r' = r
    · subst e
      rw [if_pos rfl, if_pos (by omega), hf k hk]
    · rw [if_neg (by omega), if_neg (by omega)]
      exact t3 k hk
theorem st_text {h : gz_H} (I : gz_In h) (x n : Int32) : gz_ag (fX8_text 0 x n) (fX9_text 85 x n) h (gz_St h) := by
  have I0 := I
  obtain ⟨H, F, Rw, Tx, Sc⟩ := I
  have S := H.texts F
  have x1 : ∀ (y : Int32) (h' : gz_H), fX8_layOut 0 10 x n 32 h = some (y, h') → fX8_text 0 x n h = some (y, h') := by
    intro y h' e
    unfold fX8_text fX8_text_0
    rw [ck_t (H.ck rfl), H.rf 0 1 10 (by decide), br_s, e, b2_s]
  rcases p_cases x 4 (by decide) with hx | ⟨r, hr, rfl⟩
  · refine st_sameE I0 (v := -1) (X := fX8_text 0 x n) (M := fX9_text 85 x n) (x1 _ _ (x_lo_out H S hx)) ?_
    unfold fX9_text fX9_text_0
    rw [p_isText_out hx, b2_s, if_pos rfl]
  · rcases Int.lt_or_le n.toInt 0 with hn | hn
    · refine st_findE I0 (f := 5) (by decide) (X := fX8_text 0 (nI r) n) (M := fX9_text 85 (nI r) n) (x1 _ _ (x_lo_neg H S hr hn)) ?_
      have H1 := gz_xf_La (f := 5) H
      unfold fX9_text fX9_text_0
      rw [p_isText_in hr, b2_s, if_neg (by decide), if_pos (by rw [show (80 : Int32) = nI 80 from rfl, t_le (by decide)]; omega), if_neg (by rw [t_ge0]; omega), ck_t (H1.ck rfl), show (5 : Int32) = nI 5 from rfl, p_find H1 (by decide), b2_s]
    · rcases Int.lt_or_le 80 n.toInt with hn2 | hn2
      · refine st_sameE I0 (v := -1) (X := fX8_text 0 (nI r) n) (M := fX9_text 85 (nI r) n) (x1 _ _ (x_lo_big H S hr hn2)) ?_
        unfold fX9_text fX9_text_0
        rw [p_isText_in hr, b2_s, if_neg (by decide), if_neg (by rw [show (80 : Int32) = nI 80 from rfl, t_le (by decide)]; omega)]
      · obtain ⟨j, hj, rfl⟩ : ∃ j : Nat, j < 81 ∧ n = nI j := by
          rcases p_cases n 81 (by decide) with q | q
          · have := p_out_toInt (by decide) q; omega
          · exact q
        have H1 : gz_La (uI (uF h (12 + r) (fun i => if i < 80 then 32 else h.2.1 (12 + r) i)) 16 r (nI j)) := H.of rfl rfl
        have H2 : gz_La (uI (uI (uF h (12 + r) (fun i => if i < 80 then 32 else h.2.1 (12 + r) i)) 16 r (nI j)) 93 r (nI j)) := H.of rfl rfl
        refine ⟨nI j, _, _, x1 _ _ (x_lo_ok S hr (by omega) 32), H.1, ?_, tx_new I0 hr (show j ≤ 80 by omega) (fun i => if i < 80 then 32 else h.2.1 (12 + r) i) (fun k => if 80 * r ≤ k ∧ k < 80 * r + 80 then 32 else h.2.1 94 k) (fun k hk => if_pos hk) (fun k => rfl)⟩
        unfold fX9_text fX9_text_0
        rw [p_isText_in hr, b2_s, if_neg (by decide), if_pos (show nI j ≤ (80 : Int32) from nI_le (b := 80) (by omega) (by decide)), if_pos (nI_pos' (by omega)), ck_t (H1.ck rfl), H1.rf 85 9 93 (by decide), br_s, ck_t (inb_nI (k := 10) (n := 4) (H1.sh rfl) hr (by decide)), nI_clamp (by omega), lt_d, show (0 : Int32) = nI 0 from rfl, m_tx34 hr (nI j) gz_fu 0 _ (by omega) (by show 80 < 0 + 100000; omega) H2]
        refine congrArg some (congrArg (Prod.mk _) (uF_cg fun k => ?_))
        have o : ∀ f, (uI (uI (uF h (12 + r) f) 16 r (nI j)) 93 r (nI j)).2.1 94 k = h.2.1 94 k := fun f => by rw [uI_I, if_neg (by omega), uI_I, if_neg (by omega), uF_I, if_neg (by omega)]
        rw [o]
        rfl
theorem op_text {h : gz_H} (I : gz_Iv h) (x1 x2 : Int32) : gz_ag (fX8_text 0 x1 x2) (fX9_text 85 x1 x2) h gz_Iv := ag_iv I (st_text I.1 x1 x2)
theorem tx_put {h : gz_H} (I : gz_In h) {r j : Nat} (hr : r < 4) (hj : j < 80) (v : Int32) : gz_St h (uI (uI h (12 + r) j v) 94 (80 * r + j) v) := by
  obtain ⟨H, F, Rw, Tx, Sc⟩ := I
  have off : ∀ a k, (a < 12 ∨ 15 < a) → a ≠ 94 → (uI (uI h (12 + r) j v) 94 (80 * r + j) v).2.1 a k = h.2.1 a k := fun a k h1 h2 => by rw [uI_I, if_neg (by omega), uI_I, if_neg (by omega)]
  refine ⟨⟨H.of rfl rfl, F.cg (fun a k ha => off a k (by omega) (by omega)), Rw.cg (fun a k ha => off a k (by omega) (by omega)), ?_, Sc.cg (fun a k ha => off a k (by omega) (by omega)) rfl⟩, rfl, fun a k ha => by unfold gz_ff at ha; exact off a k (by omega) (by omega)⟩
  intro r' hr'
  obtain ⟨t1, t2, t3⟩ := Tx r' hr'
  rw [off 16 r' (by omega) (by omega), off 93 r' (by omega) (by omega)]
  refine ⟨t1, t2, fun k hk => ?_⟩
  have := t3 k hk
  by_cases e : r' = r ∧ k = j
  · obtain ⟨rfl, rfl⟩ := e
    rw [uI_I, if_neg (by omega), uI_I, if_pos ⟨rfl, rfl⟩, uI_I, if_pos ⟨rfl, rfl⟩]
  · rw [uI_I, if_neg (by omega), uI_I, if_neg (by omega), uI_I, if_neg (by omega), uI_I, if_neg (by omega)]
    exact this
theorem st_put {h : gz_H} (I : gz_In h) (x i v : Int32) : gz_ag (fX8_put 0 x i v) (fX9_put 85 x i v) h (gz_St h) := by
  have I0 := I
  obtain ⟨H, F, Rw, Tx, Sc⟩ := I
  have S := H.texts F
  have x1 : ∀ (y : Int32) (h' : gz_H), fX8_refusalOfCell 0 10 x i h = some (y, h') → ¬ y = 0 → fX8_put 0 x i v h = some (y, h') := by
    intro y h' e hy
    unfold fX8_put fX8_put_0
    rw [ck_t (H.ck rfl), H.rf 0 1 10 (by decide), br_s, e, b2_s, if_neg hy]
  rcases p_cases x 4 (by decide) with hx | ⟨r, hr, rfl⟩
  · refine st_sameE I0 (v := -1) (X := fX8_put 0 x i v) (M := fX9_put 85 x i v) (x1 _ _ (x_ref_out H S hx) (by decide)) ?_
    unfold fX9_put fX9_put_0
    rw [p_isText_out hx, b2_s, if_pos rfl]
  · obtain ⟨q1, q2, q3⟩ := Tx r hr
    have cl : (nI r).toNatClampNeg = r := nI_clamp (by omega)
    rcases q2 with e | ⟨n, hn, en⟩
    · refine st_findE I0 (f := 1) (by decide) (X := fX8_put 0 (nI r) i v) (M := fX9_put 85 (nI r) i v) (x1 _ _ (x_ref_no H S hr e i) (by decide)) ?_
      have H1 := gz_xf_La (f := 1) H
      have m93 : (gz_xf h 1).2.1 93 r = -1 := by rw [gz_xf_I 93 r (by decide) (by decide), ← q1]; exact e
      unfold fX9_put fX9_put_0
      rw [p_isText_in hr, b2_s, if_neg (by decide), ck_t (H1.ck rfl), H1.rf 85 9 93 (by decide), br_s, ck_t (inb_nI (k := 10) (n := 4) (H1.sh rfl) hr (by decide)), cl, m93, if_neg (by decide), show (1 : Int32) = nI 1 from rfl, p_find H1 (by decide), b2_s]
    · rcases p_cases i n (by omega) with hi | ⟨j, hj, rfl⟩
      · refine st_findE I0 (f := 2) (by decide) (X := fX8_put 0 (nI r) i v) (M := fX9_put 85 (nI r) i v) (x1 _ _ (x_ref_be H S hr (by omega) en hi) (by decide)) ?_
        have H1 := gz_xf_La (f := 2) H
        have m93 : (gz_xf h 2).2.1 93 r = nI n := by rw [gz_xf_I 93 r (by decide) (by decide), ← q1]; exact en
        unfold fX9_put fX9_put_0
        rw [p_isText_in hr, b2_s, if_neg (by decide), ck_t (H1.ck rfl), H1.rf 85 9 93 (by decide), br_s, ck_t (inb_nI (k := 10) (n := 4) (H1.sh rfl) hr (by decide)), cl, m93, if_pos (nI_pos' (by omega)), p_in0_out (by omega) hi, b2_s, if_pos rfl, ck_t (H1.ck rfl), show (2 : Int32) = nI 2 from rfl, p_find H1 (by decide), b2_s]
      · have cj : (nI j).toNatClampNeg = j := nI_clamp (by omega)
        have hsr := S.2.2.2.2.2.1 r hr
        refine ⟨h.2.1 (12 + r) j + 1000, uI h (12 + r) j v.toInt8.toInt32, uI (uI h (12 + r) j v.toInt8.toInt32) 94 (80 * r + j) v.toInt8.toInt32, ?_, H.1, ?_, tx_put I0 hr (by omega) _⟩
        · unfold fX8_put fX8_put_0
          rw [ck_t (H.ck rfl), H.rf 0 1 10 (by decide), br_s, x_ref_ok S hr (by omega) en hj, b2_s, if_pos rfl, ck_t (H.ck rfl), H.rf 0 1 10 (by decide), br_s, ck_t (H.ck rfl), H.rf 10 1 11 (by decide), br_s, ck_t (inb_nI (k := 13) (n := 4) (H.sh rfl) hr (by decide)), cl, hsr.1, br_s, ck_t (inb_nI hsr.2 (by omega) (by decide)), cj, lt_d]
        · have H1 : gz_La (uI h (12 + r) j v.toInt8.toInt32) := H.of rfl rfl
          have m93 : (uI h (12 + r) j v.toInt8.toInt32).2.1 93 r = nI n := by rw [uI_I, if_neg (by omega), ← q1]; exact en
          have m94 : (uI h (12 + r) j v.toInt8.toInt32).2.1 94 (80 * r + j) = h.2.1 (12 + r) j := by rw [uI_I, if_neg (by omega), q3 j (by omega)]
          unfold fX9_put fX9_put_0
          rw [p_isText_in hr, b2_s, if_neg (by decide), ck_t (H1.ck rfl), H1.rf 85 9 93 (by decide), br_s, ck_t (inb_nI (k := 10) (n := 4) (H1.sh rfl) hr (by decide)), cl, m93, if_pos (nI_pos' (by omega)), p_in0_in (by omega) hj, b2_s, if_neg (by decide), ck_t (H1.ck rfl), H1.rf 85 10 94 (by decide), br_s, show (80 : Int32) = nI 80 from rfl, n_mul, ck_t (inb_nI (k := 10) (n := 320) (H1.sh rfl) (by omega) (by decide)), nI_clamp (by omega), m94, lt_d, lt_d]
theorem op_put {h : gz_H} (I : gz_Iv h) (x1 x2 x3 : Int32) : gz_ag (fX8_put 0 x1 x2 x3) (fX9_put 85 x1 x2 x3) h gz_Iv := ag_iv I (st_put I.1 x1 x2 x3)
/-! mean -/
def l_sm (f : Nat → Int32) : Nat → Int64
  | 0 => 0
  | n + 1 => l_sm f n + (f n).toInt64
theorem x_mean61 {h : gz_H} (H : gz_La h) (F : gz_Fx h) {r n : Nat} (hr : r < 6) (h0 : 0 < n) (hn : n ≤ 40) : ∀ (m i : Nat), i ≤ n → n < i + m → fX8_mean_61 m 0 (nI r) (nI n) (l_sm (h.2.1 (3 + r)) i) (nI i) h = some (1, uI h 0 18 ((l_sm (h.2.1 (3 + r)) n / (nI n).toInt64).toInt32)) := by
  have hsr := (H.rows F).2.2.2.2.2.1 r hr
  intro m
  induction m with
  | zero => intro i h1 h2; omega
  | succ m ih =>
    intro i h1 h2
    rw [fX8_mean_61]
    by_cases e : i = n
    · subst e
      rw [if_pos (nI_le (Nat.le_refl _) (by omega)), ck_t, ck_t (H.ck rfl), lt_d]
      unfold gz_nzL
      refine decide_eq_true (fun z => ?_)
      have := congrArg Int64.toInt z
      rw [l_of, nI_toInt (by omega)] at this
      have e0 : (0 : Int64).toInt = 0 := rfl
      omega
    · rw [if_neg (nI_ge (by omega) (by omega)), ck_t (H.ck rfl), H.rf 0 0 1 (by decide), br_s, ck_t (H.ck rfl), H.rf 1 1 2 (by decide), br_s, ck_t (inb_nI (k := 13) (n := 6) (H.sh rfl) hr (by decide)), nI_clamp (by omega), hsr.1, br_s, ck_t (inb_nI hsr.2 (by omega) (by decide)), nI_clamp (by omega), nI_1]
      exact ih (i + 1) (by omega) (by omega)
theorem m_mean44 {h : gz_H} (H : gz_La h) {r n : Nat} (hr : r < 6) (h0 : 0 < n) (hn : n ≤ 40) (en : h.2.1 91 r = nI n) : ∀ (m i : Nat), i ≤ n → n < i + m → fX9_mean_44 m 85 (nI r) (l_sm (fun k => h.2.1 92 (40 * r + k)) i) (nI i) h = some (1, uI h 85 11 ((l_sm (fun k => h.2.1 92 (40 * r + k)) n / (nI n).toInt64).toInt32)) := by
  intro m
  induction m with
  | zero => intro i h1 h2; omega
  | succ m ih =>
    intro i h1 h2
    rw [fX9_mean_44]
    rw [ck_t (H.ck rfl), H.rf 85 7 91 (by decide), br_s, ck_t (inb_nI (k := 10) (n := 6) (H.sh rfl) hr (by decide)), nI_clamp (n := r) (by omega), en]
    by_cases e : i = n
    · subst e
      rw [if_pos (nI_le (Nat.le_refl _) (by omega)), ck_t, p_tell H, b2_s]
      unfold gz_nzL
      refine decide_eq_true (fun z => ?_)
      have := congrArg Int64.toInt z
      rw [l_of, nI_toInt (by omega)] at this
      have e0 : (0 : Int64).toInt = 0 := rfl
      omega
    · rw [if_neg (nI_ge (by omega) (by omega)), H.rf 85 8 92 (by decide), br_s, show (40 : Int32) = nI 40 from rfl, n_mul, ck_t (inb_nI (k := 10) (n := 240) (H.sh rfl) (by omega) (by decide)), nI_clamp (by omega), lt_d, nI_1]
      exact ih (i + 1) (by omega) (by omega)
theorem l_sm_cg {f g : Nat → Int32} : ∀ n, (∀ k, k < n → f k = g k) → l_sm f n = l_sm g n := by
  intro n
  induction n with
  | zero => intro _; rfl
  | succ n ih => intro e; show l_sm f n + _ = l_sm g n + _; rw [ih (fun k hk => e k (by omega)), e n (by omega)]
theorem st_mean {h : gz_H} (I : gz_In h) (x : Int32) : gz_ag (fX8_mean 0 x) (fX9_mean 85 x) h (gz_St h) := by
  have I0 := I
  obtain ⟨H, F, Rw, Tx, Sc⟩ := I
  have S := H.rows F
  rcases p_cases x 6 (by decide) with hx | ⟨r, hr, rfl⟩
  · refine st_sameE I0 (v := -1) (X := fX8_mean 0 x) (M := fX9_mean 85 x) ?_ ?_
    · unfold fX8_mean fX8_mean_0
      rw [ck_t (H.ck rfl), H.rf 0 0 1 (by decide), br_s, ck_t (H.ck rfl), p_knows_out S hx, b2_s, if_pos rfl]
    · unfold fX9_mean fX9_mean_0
      rw [p_isRow_out hx, b2_s, if_pos rfl]
  · obtain ⟨q1, q2, q3⟩ := Rw r hr
    have cl : (nI r).toNatClampNeg = r := nI_clamp (by omega)
    rcases q2 with e | ⟨n, hn, en⟩
    · refine st_findE I0 (f := 1) (by decide) (X := fX8_mean 0 (nI r)) (M := fX9_mean 85 (nI r)) ?_ ?_
      · unfold fX8_mean fX8_mean_0
        rw [ck_t (H.ck rfl), H.rf 0 0 1 (by decide), br_s, ck_t (H.ck rfl), p_knows_in S hr, b2_s, if_neg (by decide), ck_t (H.ck rfl), H.rf 0 0 1 (by decide), br_s, ck_t (H.ck rfl), p_has0 S hr e, b2_s, if_pos rfl, ck_t (H.ck rfl), H.rf 0 3 18 (by decide), br_s, ck_t (H.ck rfl), show (1 : Int32) = nI 1 from rfl, p_answer H (by decide), b2_s]
      · have H1 := gz_xf_La (f := 1) H
        have m91 : (gz_xf h 1).2.1 91 r = -1 := by rw [gz_xf_I 91 r (by decide) (by decide), ← q1]; exact e
        unfold fX9_mean fX9_mean_0
        rw [p_isRow_in hr, b2_s, if_neg (by decide), ck_t (H1.ck rfl), H1.rf 85 7 91 (by decide), br_s, ck_t (inb_nI (k := 10) (n := 6) (H1.sh rfl) hr (by decide)), cl, m91, if_neg (by decide), show (1 : Int32) = nI 1 from rfl, p_find H1 (by decide), b2_s]
    · have hne : ¬ h.2.1 9 r = -1 := by rw [en]; exact n_ne n (by omega)
      by_cases hz : n = 0
      · subst hz
        refine st_findE I0 (f := 4) (by decide) (X := fX8_mean 0 (nI r)) (M := fX9_mean 85 (nI r)) ?_ ?_
        · unfold fX8_mean fX8_mean_0
          rw [ck_t (H.ck rfl), H.rf 0 0 1 (by decide), br_s, ck_t (H.ck rfl), p_knows_in S hr, b2_s, if_neg (by decide), ck_t (H.ck rfl), H.rf 0 0 1 (by decide), br_s, ck_t (H.ck rfl), p_has1 S hr hne, b2_s, if_neg (by decide), ck_t (H.ck rfl), H.rf 0 0 1 (by decide), br_s, ck_t (H.ck rfl), H.rf 1 2 9 (by decide), br_s, ck_t (inb_nI (k := 10) (n := 6) (H.sh rfl) hr (by decide)), cl, en, if_pos (by decide), H.rf 0 3 18 (by decide), br_s, ck_t (H.ck rfl), show (4 : Int32) = nI 4 from rfl, p_answer H (by decide), b2_s]
        · have H1 := gz_xf_La (f := 4) H
          have m91 : (gz_xf h 4).2.1 91 r = 0 := by rw [gz_xf_I 91 r (by decide) (by decide), ← q1]; exact en
          unfold fX9_mean fX9_mean_0
          rw [p_isRow_in hr, b2_s, if_neg (by decide), ck_t (H1.ck rfl), H1.rf 85 7 91 (by decide), br_s, ck_t (inb_nI (k := 10) (n := 6) (H1.sh rfl) hr (by decide)), cl, m91, if_pos (by decide), if_pos rfl, show (4 : Int32) = nI 4 from rfl, p_find H1 (by decide), b2_s]
      · have hn0 : ¬ nI n = 0 := nI_ne0 (by omega) (by omega)
        generalize hv : (l_sm (h.2.1 (3 + r)) n / (nI n).toInt64).toInt32 = v
        have H1 : gz_La (uI h 0 18 v) := H.of rfl rfl
        refine ⟨1, uI h 0 18 v, uI (uI h 0 18 v) 85 11 v, ?_, H.1, ?_, st_ask I0 (gz_St.rf I0)⟩
        · unfold fX8_mean fX8_mean_0
          rw [ck_t (H.ck rfl), H.rf 0 0 1 (by decide), br_s, ck_t (H.ck rfl), p_knows_in S hr, b2_s, if_neg (by decide), ck_t (H.ck rfl), H.rf 0 0 1 (by decide), br_s, ck_t (H.ck rfl), p_has1 S hr hne, b2_s, if_neg (by decide), ck_t (H.ck rfl), H.rf 0 0 1 (by decide), br_s, ck_t (H.ck rfl), H.rf 1 2 9 (by decide), br_s, ck_t (inb_nI (k := 10) (n := 6) (H.sh rfl) hr (by decide)), cl, en, if_neg hn0]
          have := x_mean61 H F hr (show 0 < n by omega) hn gz_fu 0 (by omega) (by show n < 0 + 100000; omega)
          rw [hv] at this
          exact this
        · have m91 : (uI h 0 18 v).2.1 91 r = nI n := by rw [uI_I, if_neg (by omega), ← q1]; exact en
          unfold fX9_mean fX9_mean_0
          rw [p_isRow_in hr, b2_s, if_neg (by decide), ck_t (H1.ck rfl), H1.rf 85 7 91 (by decide), br_s, ck_t (inb_nI (k := 10) (n := 6) (H1.sh rfl) hr (by decide)), cl, m91, if_pos (nI_pos' (by omega)), if_neg hn0]
          have := m_mean44 H1 hr (show 0 < n by omega) hn m91 gz_fu 0 (by omega) (by show n < 0 + 100000; omega)
          rw [l_sm_cg (g := h.2.1 (3 + r)) n (fun k hk => by rw [uI_I, if_neg (by omega), q3 k (by omega)]), hv] at this
          exact this
theorem op_mean {h : gz_H} (I : gz_Iv h) (x1 : Int32) : gz_ag (fX8_mean 0 x1) (fX9_mean 85 x1) h gz_Iv := ag_iv I (st_mean I.1 x1)
