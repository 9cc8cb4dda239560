theorem t_lt0 {x : Int32} : x < 0 ↔ x.toInt < 0 := by rw [Int32.lt_iff_toInt_lt]; rfl
theorem t_le {x : Int32} {n : Nat} (hn : n < 2 ^ 31) : x ≤ nI n ↔ x.toInt ≤ n := by rw [Int32.le_iff_toInt_le, nI_toInt hn]
theorem t_ge {x : Int32} {n : Nat} (hn : n < 2 ^ 31) : nI n ≤ x ↔ (n : Int) ≤ x.toInt := by rw [Int32.le_iff_toInt_le, nI_toInt hn]
theorem t_lt {x : Int32} {n : Nat} (hn : n < 2 ^ 31) : x < nI n ↔ x.toInt < n := by rw [Int32.lt_iff_toInt_lt, nI_toInt hn]
theorem t_ge0 {x : Int32} : 0 ≤ x ↔ 0 ≤ x.toInt := by rw [Int32.le_iff_toInt_le]; rfl
theorem op_findings {h : gz_H} (I : gz_Iv h) (x1 : Int32) : gz_ag (fX8_findings 0 x1) (fX9_findings 85 x1) h gz_Iv := by
  obtain ⟨H, F, Rw, Tx, Sc⟩ := I.1
  by_cases e : 1 ≤ x1.toInt ∧ x1.toInt ≤ 5
  · obtain ⟨j, hj, rfl⟩ : ∃ j : Nat, j < 6 ∧ x1 = nI j := by
      rcases p_cases x1 6 (by decide) with q | q
      · have := p_out_toInt (by decide) q; omega
      · exact q
    rw [nI_toInt (by omega)] at e
    have cl : (nI j).toNatClampNeg = j := nI_clamp (by omega)
    refine ⟨h.2.1 19 j, h, h, ?_, H.1, ?_, I⟩
    · unfold fX8_findings fX8_findings_0
      rw [if_neg (by rw [show (1 : Int32) = nI 1 from rfl, t_lt (by decide), nI_toInt (by omega)]; omega), if_pos (by rw [show (5 : Int32) = nI 5 from rfl, t_le (by decide), nI_toInt (by omega)]; omega), ck_t (H.ck rfl), H.rf 0 3 18 (by decide), br_s, ck_t (H.ck rfl), H.rf 18 0 19 (by decide), br_s, ck_t (inb_nI (k := 10) (n := 6) (H.sh rfl) hj (by decide)), cl]
    · unfold fX9_findings fX9_findings_0
      rw [p_in, if_pos (by rw [nI_toInt (by omega)]; exact ⟨by show (1 : Int) ≤ _; omega, by show _ ≤ (5 : Int); omega⟩), b2_s, if_neg (by decide), ck_t (H.ck rfl), H.rf 85 15 95 (by decide), br_s, ck_t (inb_nI (k := 10) (n := 6) (H.sh rfl) hj (by decide)), cl, Sc.2.2.1 j hj]
  · refine ⟨-1, h, h, ?_, H.1, ?_, I⟩
    · unfold fX8_findings fX8_findings_0 fX8_findings_10
      by_cases e1 : x1 < (1 : Int32)
      · rw [if_pos e1]
      · rw [if_neg e1, if_neg]
        intro e2
        rw [show (1 : Int32) = nI 1 from rfl, t_lt (by decide)] at e1
        rw [show (5 : Int32) = nI 5 from rfl, t_le (by decide)] at e2
        omega
    · unfold fX9_findings fX9_findings_0
      rw [p_in, if_neg (fun z => e ⟨z.1, z.2⟩), b2_s, if_pos rfl]
/-! row, text -/
section
variable {h : gz_H} {s o b z c g : Nat}
theorem x_lo_out (H : gz_La h) (S : gz_Sf h s o b z c g) {x n v : Int32} (hx : p_out x c) : fX8_layOut 0 s x n v h = some (-1, h) := by
  unfold fX8_layOut fX8_layOut_0
  rw [ck_t (sh_t S.1), p_knows_out S hx, b2_s, if_pos rfl]
theorem x_lo_big (H : gz_La h) (S : gz_Sf h s o b z c g) {k : Nat} (hk : k < c) {n v : Int32} (hn : (g : Int) < n.toInt) : fX8_layOut 0 s (nI k) n v h = some (-1, h) := by
  have hg := S.2.2.2.2.2.2.2.2
  unfold fX8_layOut fX8_layOut_0
  rw [ck_t (sh_t S.1), p_knows_in S hk, b2_s, if_neg (by decide), ck_t (sh_t S.1), S.2.2.2.2.2.2.1, if_neg (by rw [t_le (by omega)]; omega)]
theorem x_lo_neg (H : gz_La h) (S : gz_Sf h s o b z c g) {k : Nat} (hk : k < c) {n v : Int32} (hn : n.toInt < 0) : fX8_layOut 0 s (nI k) n v h = some (-3, gz_xf h 5) := by
  have hg := S.2.2.2.2.2.2.2.2
  unfold fX8_layOut fX8_layOut_0
  rw [ck_t (sh_t S.1), p_knows_in S hk, b2_s, if_neg (by decide), ck_t (sh_t S.1), S.2.2.2.2.2.2.1, if_pos (by rw [t_le (by omega)]; omega), if_neg (by rw [t_ge0]; omega), ck_t (H.ck rfl), H.rf 0 3 18 (by decide), br_s, ck_t (H.ck rfl), show (5 : Int32) = nI 5 from rfl, p_answer H (by decide), b2_s]
theorem x_lo_ok (S : gz_Sf h s o b z c g) {k n : Nat} (hk : k < c) (hn : n ≤ g) (v : Int32) : fX8_layOut 0 s (nI k) (nI n) v h = some (nI n, uI (uF h (b + k) (fun j => if j < g then v else h.2.1 (b + k) j)) z k (nI n)) := by
  have hg := S.2.2.2.2.2.2.2.2
  unfold fX8_layOut fX8_layOut_0
  rw [ck_t (sh_t S.1), p_knows_in S hk, b2_s, if_neg (by decide), ck_t (sh_t S.1), S.2.2.2.2.2.2.1, if_pos (nI_le hn (by omega)), if_pos (nI_pos' (by omega)), p_make S hk, b2_s]
end
theorem m_mk9 {r : Nat} (hr : r < 6) : ∀ (m i : Nat) (h : gz_H), i ≤ 40 → 40 < i + m → gz_La h → fX9_makeRow_9 m 85 (nI r) (nI i) h = some ((), uF h 92 (fun k => if 40 * r + i ≤ k ∧ k < 40 * r + 40 then 0 else h.2.1 92 k)) := by
  intro m
  induction m with
  | zero => intro i h h1 h2; omega
  | succ m ih =>
    intro i h h1 h2 H
    rw [fX9_makeRow_9]
    by_cases e : i = 40
    · subst e
      rw [if_pos (by decide)]
      refine congrArg some (congrArg (Prod.mk ()) ?_)
      refine (uF_self (h := h) (a := 92)).symm.trans (uF_cg fun k => ?_)
      rw [if_neg (by omega)]
    · have H1 : gz_La (uI h 92 (40 * r + i) 0) := H.of rfl rfl
      rw [if_neg (show ¬ (40 : Int32) ≤ nI i from nI_ge (a := i) (b := 40) (by omega) (by decide)), ck_t (H.ck rfl), H.rf 85 8 92 (by decide), br_s, show (40 : Int32) = nI 40 from rfl, n_mul, ck_t (inb_nI (k := 10) (n := 240) (H.sh rfl) (by omega) (by decide)), nI_clamp (by omega), lt_d, nI_1, ih (i + 1) _ (by omega) (by omega) H1]
      refine congrArg some (congrArg (Prod.mk ()) ?_)
      rw [uF_uI]
      refine uF_cg fun k => ?_
      rw [uI_I]
      by_cases hk : k = 40 * r + i
      · rw [if_neg (by omega), if_pos ⟨rfl, hk⟩, if_pos (by omega)]
      · have hne : ¬ ((92 : Nat) = 92 ∧ k = 40 * r + i) := fun z => hk z.2
        rw [if_neg hne]
        by_cases h9 : 40 * r + (i + 1) ≤ k ∧ k < 40 * r + 40
        · rw [if_pos h9, if_pos (by omega)]
        · rw [if_neg h9, if_neg (by omega)]
theorem m_mkRow {h : gz_H} (H : gz_La h) {r : Nat} (hr : r < 6) (n : Int32) : fX9_makeRow 85 (nI r) n h = some ((), uF (uI h 91 r n) 92 (fun k => if 40 * r ≤ k ∧ k < 40 * r + 40 then 0 else h.2.1 92 k)) := by
  have H1 : gz_La (uI h 91 r n) := H.of rfl rfl
  unfold fX9_makeRow fX9_makeRow_0
  rw [ck_t (H.ck rfl), H.rf 85 7 91 (by decide), br_s, ck_t (inb_nI (k := 10) (n := 6) (H.sh rfl) hr (by decide)), nI_clamp (by omega), lt_d, show (0 : Int32) = nI 0 from rfl, m_mk9 hr gz_fu 0 _ (by omega) (by show 40 < 0 + 100000; omega) H1]
  refine congrArg some (congrArg (Prod.mk ()) (uF_cg fun k => ?_))
  rw [uI_I, if_neg (show ¬ ((92 : Nat) = 91 ∧ k = r) from by omega)]
  rfl
/-- a row anew, in both -/
theorem rw_new {h : gz_H} (I : gz_In h) {r n : Nat} (hr : r < 6) (hn : n ≤ 40) (f g : Nat → Int32) (hf : ∀ k, k < 40 → f k = 0) (hg : ∀ k, g k = if 40 * r ≤ k ∧ k < 40 * r + 40 then 0 else h.2.1 92 k) : gz_St h (uF (uI (uI (uF h (3 + r) f) 9 r (nI n)) 91 r (nI n)) 92 g) := by
  obtain ⟨H, F, Rw, Tx, Sc⟩ := I
  have off : ∀ a k, (a < 3 ∨ 9 < a) → a ≠ 91 → a ≠ 92 → (uF (uI (uI (uF h (3 + r) f) 9 r (nI n)) 91 r (nI n)) 92 g).2.1 a k = h.2.1 a k := fun a k h1 h2 h3 => by rw [uF_I, if_neg h3, uI_I, if_neg (by omega), uI_I, if_neg (by omega), uF_I, if_neg (by omega)]
  refine ⟨⟨H.of rfl rfl, F.cg (fun a k ha => off a k (by omega) (by omega) (by omega)), ?_, Tx.cg (fun a k ha => off a k (by omega) (by omega) (by omega)), Sc.cg (fun a k ha => off a k (by omega) (by omega) (by omega)) rfl⟩, rfl, fun a k ha => by unfold gz_ff at ha; exact off a k (by omega) (by omega) (by omega)⟩
  intro r' hr'
  obtain ⟨t1, t2, t3⟩ := Rw r' hr'
  have r9 : (uF (uI (uI (uF h (3 + r) f) 9 r (nI n)) 91 r (nI n)) 92 g).2.1 9 r' = if r' = r then nI n else h.2.1 9 r' := by
    rw [uF_I, if_neg (by omega), uI_I, if_neg (by omega), uI_I]
    by_cases e : r' = r
    · rw [if_pos ⟨rfl, e⟩, if_pos e]
    · rw [if_neg (fun q => e q.2), if_neg e, uF_I, if_neg (by omega)]
  have r91 : (uF (uI (uI (uF h (3 + r) f) 9 r (nI n)) 91 r (nI n)) 92 g).2.1 91 r' = if r' = r then nI n else h.2.1 91 r' := by
    rw [uF_I, if_neg (by omega), uI_I]
    by_cases e : r' = r
    · rw [if_pos ⟨rfl, e⟩, if_pos e]
    · rw [if_neg (fun q => e q.2), if_neg e, uI_I, if_neg (by omega), uF_I, if_neg (by omega)]
  rw [r9, r91]
  refine ⟨?_, ?_, fun k hk => ?_⟩
  · by_cases e : r' = r
    · rw [if_pos e, if_pos e]
    · rw [if_neg e, if_neg e]; exact t1
  · by_cases e : r' = r
    · rw [if_pos e]; exact Or.inr ⟨n, hn, rfl⟩
    · rw [if_neg e]; exact t2
  · rw [uF_I, if_neg (by omega), uI_I, if_neg (by omega), uI_I, if_neg (by omega), uF_I, uF_I, if_pos rfl, hg]
    by_cases e : r' = r
    · subst e
      rw [if_pos rfl, if_pos (by omega), hf k hk]
    · rw [if_neg (by omega), if_neg (by omega)]
      exact t3 k hk
theorem st_row {h : gz_H} (I : gz_In h) (x n : Int32) : gz_ag (fX8_row 0 x n) (fX9_row 85 x n) h (gz_St h) := by
  have I0 := I
  obtain ⟨H, F, Rw, Tx, Sc⟩ := I
  have S := H.rows F
  have x1 : ∀ (y : Int32) (h' : gz_H), fX8_layOut 0 1 x n 0 h = some (y, h') → fX8_row 0 x n h = some (y, h') := by
    intro y h' e
    unfold fX8_row fX8_row_0
    rw [ck_t (H.ck rfl), H.rf 0 0 1 (by decide), br_s, e, b2_s]
  rcases p_cases x 6 (by decide) with hx | ⟨r, hr, rfl⟩
  · refine st_sameE I0 (v := -1) (X := fX8_row 0 x n) (M := fX9_row 85 x n) (x1 _ _ (x_lo_out H S hx)) ?_
    unfold fX9_row fX9_row_0
    rw [p_isRow_out hx, b2_s, if_pos rfl]
  · rcases Int.lt_or_le n.toInt 0 with hn | hn
    · refine st_findE I0 (f := 5) (by decide) (X := fX8_row 0 (nI r) n) (M := fX9_row 85 (nI r) n) (x1 _ _ (x_lo_neg H S hr hn)) ?_
      have H1 := gz_xf_La (f := 5) H
      unfold fX9_row fX9_row_0
      rw [p_isRow_in hr, b2_s, if_neg (by decide), if_pos (by rw [show (40 : Int32) = nI 40 from rfl, t_le (by decide)]; omega), if_neg (by rw [t_ge0]; omega), ck_t (H1.ck rfl), show (5 : Int32) = nI 5 from rfl, p_find H1 (by decide), b2_s]
    · rcases Int.lt_or_le 40 n.toInt with hn2 | hn2
      · refine st_sameE I0 (v := -1) (X := fX8_row 0 (nI r) n) (M := fX9_row 85 (nI r) n) (x1 _ _ (x_lo_big H S hr hn2)) ?_
        unfold fX9_row fX9_row_0
        rw [p_isRow_in hr, b2_s, if_neg (by decide), if_neg (by rw [show (40 : Int32) = nI 40 from rfl, t_le (by decide)]; omega)]
      · obtain ⟨j, hj, rfl⟩ : ∃ j : Nat, j < 41 ∧ n = nI j := by
          rcases p_cases n 41 (by decide) with q | q
          · have := p_out_toInt (by decide) q; omega
          · exact q
        have H1 : gz_La (uI (uF h (3 + r) (fun i => if i < 40 then 0 else h.2.1 (3 + r) i)) 9 r (nI j)) := H.of rfl rfl
        refine ⟨nI j, _, _, x1 _ _ (x_lo_ok S hr (by omega) 0), H.1, ?_, rw_new I0 hr (show j ≤ 40 by omega) (fun i => if i < 40 then 0 else h.2.1 (3 + r) i) (fun k => if 40 * r ≤ k ∧ k < 40 * r + 40 then 0 else h.2.1 92 k) (fun k hk => if_pos hk) (fun k => rfl)⟩
        unfold fX9_row fX9_row_0
        rw [p_isRow_in hr, b2_s, if_neg (by decide), if_pos (show nI j ≤ (40 : Int32) from nI_le (b := 40) (by omega) (by decide)), if_pos (nI_pos' (by omega)), ck_t (H1.ck rfl), m_mkRow H1 hr, b2_s]
        refine congrArg some (congrArg (Prod.mk _) (uF_cg fun k => ?_))
        have o : ∀ f, (uI (uF h (3 + r) f) 9 r (nI j)).2.1 92 k = h.2.1 92 k := fun f => by rw [uI_I, if_neg (by omega), uF_I, if_neg (by omega)]
        rw [o]
theorem op_row {h : gz_H} (I : gz_Iv h) (x1 x2 : Int32) : gz_ag (fX8_row 0 x1 x2) (fX9_row 85 x1 x2) h gz_Iv := ag_iv I (st_row I.1 x1 x2)
