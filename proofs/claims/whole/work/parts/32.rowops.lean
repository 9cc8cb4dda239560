/-! PURE: row, lay, at, tear, copy, mean, text, put agree -/
theorem st_tear {h : gz_H} (I : gz_In h) (x : Int32) : ∃ v h1 h2, fX8_tear 0 x h = some (v, h1) ∧ fX9_tear 85 x h1 = some (v, h2) ∧ gz_St h h2 := by
  have I0 := I
  obtain ⟨H, F, Rw, Tx, Sc⟩ := I
  have S := H.rows F
  rcases p_cases x 6 (by decide) with hx | ⟨r, hr, rfl⟩
  · refine ⟨-1, h, h, ?_, ?_, gz_St.rf I0⟩
    · unfold fX8_tear fX8_tear_0
      rw [ck_t (H.ck rfl), H.rf 0 0 1 (by decide), br_s, ck_t (H.ck rfl), p_knows_out S hx, b2_s, if_pos rfl]
    · unfold fX9_tear fX9_tear_0
      rw [p_isRow_out hx, b2_s, if_pos rfl]
  · obtain ⟨q1, q2, q3⟩ := Rw r hr
    have cl : (nI r).toNatClampNeg = r := nI_clamp (by omega)
    by_cases e : h.2.1 9 r = -1
    · refine ⟨-3, gz_xf h 1, gz_mf (gz_xf h 1) 1, ?_, ?_, st_find I0 (by decide)⟩
      · unfold fX8_tear fX8_tear_0
        rw [ck_t (H.ck rfl), H.rf 0 0 1 (by decide), br_s, ck_t (H.ck rfl), p_knows_in S hr, b2_s, if_neg (by decide), ck_t (H.ck rfl), H.rf 0 0 1 (by decide), br_s, ck_t (H.ck rfl), p_has S hr, b2_s, if_pos e, if_pos rfl, ck_t (H.ck rfl), H.rf 0 3 18 (by decide), br_s, ck_t (H.ck rfl)]
        rw [show (1 : Int32) = nI 1 from rfl, p_answer H (by decide), b2_s]
      · unfold fX9_tear fX9_tear_0
        have H1 := gz_xf_La (f := 1) H
        rw [p_isRow_in hr, b2_s, if_neg (by decide), ck_t (H1.ck rfl), H1.rf 85 7 91 (by decide), br_s, ck_t (inb_nI (k := 10) (n := 6) (H1.sh rfl) hr (by decide)), cl, gz_xf_I 91 r (by decide) (by decide), ← q1, e, if_neg (by decide)]
        rw [show (1 : Int32) = nI 1 from rfl, p_find H1 (by decide), b2_s]
    · obtain ⟨n, hn, en⟩ := q2.resolve_left e
      refine ⟨1, uI h 9 r (-1), uI (uI h 9 r (-1)) 91 r (-1), ?_, ?_, ?_⟩
      · unfold fX8_tear fX8_tear_0
        rw [ck_t (H.ck rfl), H.rf 0 0 1 (by decide), br_s, ck_t (H.ck rfl), p_knows_in S hr, b2_s, if_neg (by decide), ck_t (H.ck rfl), H.rf 0 0 1 (by decide), br_s, ck_t (H.ck rfl), p_has S hr, b2_s, if_neg e, if_neg (by decide), ck_t (H.ck rfl), H.rf 0 0 1 (by decide), br_s, ck_t (H.ck rfl), H.rf 1 2 9 (by decide), br_s, ck_t (inb_nI (k := 10) (n := 6) (H.sh rfl) hr (by decide)), cl, lt_d]
      · unfold fX9_tear fX9_tear_0
        have H1 : gz_La (uI h 9 r (-1)) := H.of rfl rfl
        rw [p_isRow_in hr, b2_s, if_neg (by decide), ck_t (H1.ck rfl), H1.rf 85 7 91 (by decide), br_s, ck_t (inb_nI (k := 10) (n := 6) (H1.sh rfl) hr (by decide)), cl, uI_I, if_neg (by omega), ← q1, en, if_pos (nI_pos' (by omega)), lt_d]
      · have off : ∀ a k, a ≠ 9 → a ≠ 91 → (uI (uI h 9 r (-1)) 91 r (-1)).2.1 a k = h.2.1 a k := fun a k h1 h2 => by rw [uI_I, if_neg (by omega), uI_I, if_neg (by omega)]
        refine ⟨⟨H.of rfl rfl, F.cg (fun a k ha => off a k (by omega) (by omega)), ?_, Tx.cg (fun a k ha => off a k (by omega) (by omega)), Sc.cg (fun a k ha => off a k (by omega) (by omega)) rfl⟩, rfl, fun a k ha => by unfold gz_ff at ha; exact off a k (by omega) (by omega)⟩
        intro r' hr'
        obtain ⟨t1, t2, t3⟩ := Rw r' hr'
        refine ⟨?_, ?_, fun k hk => ?_⟩
        · simp only [uI_I]
          by_cases ee : r' = r
          · simp [ee]
          · simp [ee, t1]
        · simp only [uI_I]
          by_cases ee : r' = r
          · simp [ee]
          · simp [ee]; exact t2
        · rw [off (3 + r') k (by omega) (by omega), off 92 _ (by omega) (by omega)]
          exact t3 k hk
