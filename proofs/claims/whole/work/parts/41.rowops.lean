/-! PURE: row, lay, at, tear, copy, mean, text, put agree -/
section
variable {h : gz_H} {s o b z c g : Nat}
theorem x_ref_out (H : gz_La h) (S : gz_Sf h s o b z c g) {x i : Int32} (hx : p_out x c) : fX8_refusalOfCell 0 s x i h = some (-1, h) := by
  unfold fX8_refusalOfCell fX8_refusalOfCell_0
  rw [ck_t (sh_t S.1), p_knows_out S hx, b2_s, if_pos rfl]
theorem x_ref_no (H : gz_La h) (S : gz_Sf h s o b z c g) {k : Nat} (hk : k < c) (e : h.2.1 z k = -1) (i : Int32) : fX8_refusalOfCell 0 s (nI k) i h = some (-3, gz_xf h 1) := by
  unfold fX8_refusalOfCell fX8_refusalOfCell_0
  rw [ck_t (sh_t S.1), p_knows_in S hk, b2_s, if_neg (by decide), ck_t (sh_t S.1), p_has0 S hk e, b2_s, if_pos rfl, ck_t (H.ck rfl), H.rf 0 3 18 (by decide), br_s, ck_t (H.ck rfl), show (1 : Int32) = nI 1 from rfl, p_answer H (by decide), b2_s]
theorem x_ref_41 (H : gz_La h) : fX8_refusalOfCell_41 0 h = some (-3, gz_xf h 2) := by
  unfold fX8_refusalOfCell_41
  rw [ck_t (H.ck rfl), H.rf 0 3 18 (by decide), br_s, ck_t (H.ck rfl), show (2 : Int32) = nI 2 from rfl, p_answer H (by decide), b2_s]
theorem n_ne (n : Nat) (hn : n < 2 ^ 31) : ¬ nI n = -1 := fun e => by
  have h1 := nI_toInt hn
  rw [e] at h1
  have h2 : (-1 : Int32).toInt = -1 := rfl
  omega
theorem x_ref_be (H : gz_La h) (S : gz_Sf h s o b z c g) {k n : Nat} (hk : k < c) (hn : n < 2 ^ 31) (e : h.2.1 z k = nI n) {i : Int32} (hi : p_out i n) : fX8_refusalOfCell 0 s (nI k) i h = some (-3, gz_xf h 2) := by
  have S0 := S
  obtain ⟨s1, s2, s3, s4, s5, s6, s7, s8, s9⟩ := S
  unfold fX8_refusalOfCell fX8_refusalOfCell_0
  rw [ck_t (sh_t s1), p_knows_in S0 hk, b2_s, if_neg (by decide), ck_t (sh_t s1), p_has1 S0 hk (by rw [e]; exact n_ne n hn), b2_s, if_neg (by decide)]
  by_cases e1 : i < 0
  · rw [if_pos e1, x_ref_41 H]
  · rw [if_neg e1, ck_t (sh_t s1), s3, br_s, ck_t (inb_nI s5 hk (by omega)), nI_clamp (by omega), e, if_neg (Int32.not_lt.mpr (hi.resolve_left e1)), x_ref_41 H]
theorem x_ref_ok (S : gz_Sf h s o b z c g) {k n j : Nat} (hk : k < c) (hn : n < 2 ^ 31) (e : h.2.1 z k = nI n) (hj : j < n) : fX8_refusalOfCell 0 s (nI k) (nI j) h = some (0, h) := by
  have S0 := S
  obtain ⟨s1, s2, s3, s4, s5, s6, s7, s8, s9⟩ := S
  unfold fX8_refusalOfCell fX8_refusalOfCell_0
  rw [ck_t (sh_t s1), p_knows_in S0 hk, b2_s, if_neg (by decide), ck_t (sh_t s1), p_has1 S0 hk (by rw [e]; exact n_ne n hn), b2_s, if_neg (by decide), if_neg (nI_pos (by omega)), ck_t (sh_t s1), s3, br_s, ck_t (inb_nI s5 hk (by omega)), nI_clamp (by omega), e, if_pos (nI_lt hj (by omega))]
end
theorem m_ref_out {h : gz_H} {x i : Int32} (hx : p_out x 6) : fX9_refused 85 x i h = some (-1, h) := by
  unfold fX9_refused fX9_refused_0
  rw [p_isRow_out hx, b2_s, if_pos rfl]
theorem m_ref_no {h : gz_H} (H : gz_La h) {k : Nat} (hk : k < 6) (e : h.2.1 91 k = -1) (i : Int32) : fX9_refused 85 (nI k) i h = some (-3, gz_mf h 1) := by
  unfold fX9_refused fX9_refused_0
  rw [p_isRow_in hk, b2_s, if_neg (by decide), ck_t (H.ck rfl), H.rf 85 7 91 (by decide), br_s, ck_t (inb_nI (k := 10) (n := 6) (H.sh rfl) hk (by decide)), nI_clamp (by omega), e, if_neg (by decide), show (1 : Int32) = nI 1 from rfl, p_find H (by decide), b2_s]
/-- in(i, 0, n - 1) -/
theorem p_in0_out {h : gz_H} {i : Int32} {n : Nat} (hn : n < 2 ^ 31) (hi : p_out i n) : fX9_in i.toInt64 (0 : Int64) (nI n - (1 : Int32)).toInt64 h = some (0, h) := by
  rw [p_in, if_neg]
  intro z
  have h1 := p_out_toInt hn hi
  have e : (nI n - (1 : Int32)).toInt64.toInt = (n : Int) - 1 := by
    rw [l_of]
    cases n with
    | zero => rfl
    | succ n =>
      rw [nI_pred, nI_toInt (by omega)]
      omega
  rw [e] at z
  have z1 : 0 ≤ i.toInt := z.1
  omega
theorem p_in0_in {h : gz_H} {j n : Nat} (hn : n < 2 ^ 31) (hj : j < n) : fX9_in (nI j).toInt64 (0 : Int64) (nI n - (1 : Int32)).toInt64 h = some (1, h) := by
  rw [p_in, if_pos]
  have e : (nI n - (1 : Int32)).toInt64.toInt = (n : Int) - 1 := by
    rw [l_of]
    cases n with
    | zero => omega
    | succ n =>
      rw [nI_pred, nI_toInt (by omega)]
      omega
  rw [e, nI_toInt (by omega)]
  exact ⟨by simp, by omega⟩
theorem m_ref_be {h : gz_H} (H : gz_La h) {k n : Nat} (hk : k < 6) (hn : n < 2 ^ 31) (e : h.2.1 91 k = nI n) {i : Int32} (hi : p_out i n) : fX9_refused 85 (nI k) i h = some (-3, gz_mf h 2) := by
  unfold fX9_refused fX9_refused_0
  rw [p_isRow_in hk, b2_s, if_neg (by decide), ck_t (H.ck rfl), H.rf 85 7 91 (by decide), br_s, ck_t (inb_nI (k := 10) (n := 6) (H.sh rfl) hk (by decide)), nI_clamp (by omega), e, if_pos (nI_pos' hn), p_in0_out hn hi, b2_s, if_pos rfl, ck_t (H.ck rfl), show (2 : Int32) = nI 2 from rfl, p_find H (by decide), b2_s]
theorem m_ref_ok {h : gz_H} (H : gz_La h) {k n j : Nat} (hk : k < 6) (hn : n < 2 ^ 31) (e : h.2.1 91 k = nI n) (hj : j < n) : fX9_refused 85 (nI k) (nI j) h = some (0, h) := by
  unfold fX9_refused fX9_refused_0
  rw [p_isRow_in hk, b2_s, if_neg (by decide), ck_t (H.ck rfl), H.rf 85 7 91 (by decide), br_s, ck_t (inb_nI (k := 10) (n := 6) (H.sh rfl) hk (by decide)), nI_clamp (by omega), e, if_pos (nI_pos' hn), p_in0_in hn hj, b2_s, if_neg (by decide)]
theorem p_tell {h : gz_H} (H : gz_La h) (v : Int32) : fX9_tell 85 v h = some (1, uI h 85 11 v) := by
  unfold fX9_tell fX9_tell_0
  rw [ck_t (H.ck rfl), lt_d]
/-- 40 r + k as an int -/
theorem n_mul (a b c : Nat) : nI a * nI b + nI c = nI (a * b + c) := by rw [pk_mul, nI_add]
/-- where both sides' answers are told: a finding -/
theorem st_findE {h : gz_H} (I : gz_In h) {f : Nat} (hf : f < 6) {X M : gz_H → Option (Int32 × gz_H)} (hx : X h = some (-3, gz_xf h f)) (hm : M (gz_xf h f) = some (-3, gz_mf (gz_xf h f) f)) : gz_ag X M h (gz_St h) := ⟨-3, _, _, hx, I.1.1, hm, st_find I hf⟩
theorem st_sameE {h : gz_H} (I : gz_In h) {v : Int32} {X M : gz_H → Option (Int32 × gz_H)} (hx : X h = some (v, h)) (hm : M h = some (v, h)) : gz_ag X M h (gz_St h) := ⟨v, _, _, hx, I.1.1, hm, gz_St.rf I⟩
/-- asked: both tell v -/
theorem st_ask {h h' : gz_H} {v : Int32} (I : gz_In h') (S : gz_St h h') : gz_St h (uI (uI h' 0 18 v) 85 11 v) := by
  obtain ⟨H, F, Rw, Tx, Sc⟩ := I
  have off : ∀ a k, (a ≠ 0 ∨ k ≠ 18) → (a ≠ 85 ∨ k ≠ 11) → (uI (uI h' 0 18 v) 85 11 v).2.1 a k = h'.2.1 a k := fun a k h1 h2 => by rw [uI_I, if_neg (by omega), uI_I, if_neg (by omega)]
  refine ⟨⟨H.of rfl rfl, F.cg (fun a k ha => off a k (by omega) (by omega)), Rw.cg (fun a k ha => off a k (by omega) (by omega)), Tx.cg (fun a k ha => off a k (by omega) (by omega)), ?_⟩, S.2.1, fun a k ha => ?_⟩
  · obtain ⟨s1, s2, s3, s4, s5⟩ := Sc
    refine ⟨?_, ?_, fun f hf => ?_, s4, s5⟩
    · rw [uI_I, if_neg (by omega), uI_I, if_pos ⟨rfl, rfl⟩, uI_I, if_pos ⟨rfl, rfl⟩]
    · rw [off 18 1 (by omega) (by omega), off 85 14 (by omega) (by omega)]; exact s2
    · rw [off 19 f (by omega) (by omega), off 95 f (by omega) (by omega)]; exact s3 f hf
  · have hb := ha
    unfold gz_ff at hb
    rw [off a k (by omega) (by omega)]
    exact S.2.2 a k ha
theorem st_tear {h : gz_H} (I : gz_In h) (x : Int32) : gz_ag (fX8_tear 0 x) (fX9_tear 85 x) h (gz_St h) := by
  have I0 := I
  obtain ⟨H, F, Rw, Tx, Sc⟩ := I
  have S := H.rows F
  rcases p_cases x 6 (by decide) with hx | ⟨r, hr, rfl⟩
  · refine ⟨-1, h, h, ?_, H.1, ?_, gz_St.rf I0⟩
    · unfold fX8_tear fX8_tear_0
      rw [ck_t (H.ck rfl), H.rf 0 0 1 (by decide), br_s, ck_t (H.ck rfl), p_knows_out S hx, b2_s, if_pos rfl]
    · unfold fX9_tear fX9_tear_0
      rw [p_isRow_out hx, b2_s, if_pos rfl]
  · obtain ⟨q1, q2, q3⟩ := Rw r hr
    have cl : (nI r).toNatClampNeg = r := nI_clamp (by omega)
    by_cases e : h.2.1 9 r = -1
    · refine ⟨-3, gz_xf h 1, gz_mf (gz_xf h 1) 1, ?_, H.1, ?_, st_find I0 (by decide)⟩
      · unfold fX8_tear fX8_tear_0
        rw [ck_t (H.ck rfl), H.rf 0 0 1 (by decide), br_s, ck_t (H.ck rfl), p_knows_in S hr, b2_s, if_neg (by decide), ck_t (H.ck rfl), H.rf 0 0 1 (by decide), br_s, ck_t (H.ck rfl), p_has0 S hr e, b2_s, if_pos rfl, ck_t (H.ck rfl), H.rf 0 3 18 (by decide), br_s, ck_t (H.ck rfl)]
        rw [show (1 : Int32) = nI 1 from rfl, p_answer H (by decide), b2_s]
      · unfold fX9_tear fX9_tear_0
        have H1 := gz_xf_La (f := 1) H
        rw [p_isRow_in hr, b2_s, if_neg (by decide), ck_t (H1.ck rfl), H1.rf 85 7 91 (by decide), br_s, ck_t (inb_nI (k := 10) (n := 6) (H1.sh rfl) hr (by decide)), cl, gz_xf_I 91 r (by decide) (by decide), ← q1, e, if_neg (by decide)]
        rw [show (1 : Int32) = nI 1 from rfl, p_find H1 (by decide), b2_s]
    · obtain ⟨n, hn, en⟩ := q2.resolve_left e
      refine ⟨1, uI h 9 r (-1), uI (uI h 9 r (-1)) 91 r (-1), ?_, H.1, ?_, ?_⟩
      · unfold fX8_tear fX8_tear_0
        rw [ck_t (H.ck rfl), H.rf 0 0 1 (by decide), br_s, ck_t (H.ck rfl), p_knows_in S hr, b2_s, if_neg (by decide), ck_t (H.ck rfl), H.rf 0 0 1 (by decide), br_s, ck_t (H.ck rfl), p_has1 S hr e, b2_s, if_neg (by decide), ck_t (H.ck rfl), H.rf 0 0 1 (by decide), br_s, ck_t (H.ck rfl), H.rf 1 2 9 (by decide), br_s, ck_t (inb_nI (k := 10) (n := 6) (H.sh rfl) hr (by decide)), cl, lt_d]
      · unfold fX9_tear fX9_tear_0
        have H1 : gz_La (uI h 9 r (-1)) := H.of rfl rfl
        have m91 : (uI h 9 r (-1)).2.1 91 r = nI n := by rw [uI_I, if_neg (by omega), ← q1]; exact en
        rw [p_isRow_in hr, b2_s, if_neg (by decide), ck_t (H1.ck rfl), H1.rf 85 7 91 (by decide), br_s, ck_t (inb_nI (k := 10) (n := 6) (H1.sh rfl) hr (by decide)), cl, m91, if_pos (nI_pos' (by omega)), lt_d]
      · have off : ∀ a k, a ≠ 9 → a ≠ 91 → (uI (uI h 9 r (-1)) 91 r (-1)).2.1 a k = h.2.1 a k := fun a k h1 h2 => by rw [uI_I, if_neg (by omega), uI_I, if_neg (by omega)]
        refine ⟨⟨H.of rfl rfl, F.cg (fun a k ha => off a k (by omega) (by omega)), ?_, Tx.cg (fun a k ha => off a k (by omega) (by omega)), Sc.cg (fun a k ha => off a k (by omega) (by omega)) rfl⟩, rfl, fun a k ha => by unfold gz_ff at ha; exact off a k (by omega) (by omega)⟩
        intro r' hr'
        obtain ⟨t1, t2, t3⟩ := Rw r' hr'
        refine ⟨?_, ?_, fun k hk => ?_⟩
        · simp only [uI_I]
          by_cases ee : r' = r
          · simp [ee]
          · simp [ee, t1]
        · simp only [uI_I]
          by_cases ee : r' = r
          · simp [ee]
          · simp [ee]; exact t2
        · rw [off (3 + r') k (by omega) (by omega), off 92 _ (by omega) (by omega)]
          exact t3 k hk

/-- a row's place in the class and in the reference -/
theorem rw_put {h : gz_H} (I : gz_In h) {r n j : Nat} (hr : r < 6) (hj : j < 40) (v : Int32) : gz_St h (uI (uI h (3 + r) j v) 92 (40 * r + j) v) := by
  obtain ⟨H, F, Rw, Tx, Sc⟩ := I
  have off : ∀ a k, (a < 3 ∨ 8 < a) → a ≠ 92 → (uI (uI h (3 + r) j v) 92 (40 * r + j) v).2.1 a k = h.2.1 a k := fun a k h1 h2 => by rw [uI_I, if_neg (by omega), uI_I, if_neg (by omega)]
  refine ⟨⟨H.of rfl rfl, F.cg (fun a k ha => off a k (by omega) (by omega)), ?_, Tx.cg (fun a k ha => off a k (by omega) (by omega)), Sc.cg (fun a k ha => off a k (by omega) (by omega)) rfl⟩, rfl, fun a k ha => by unfold gz_ff at ha; exact off a k (by omega) (by omega)⟩
  intro r' hr'
  obtain ⟨t1, t2, t3⟩ := Rw r' hr'
  rw [off 9 r' (by omega) (by omega), off 91 r' (by omega) (by omega)]
  refine ⟨t1, t2, fun k hk => ?_⟩
  have := t3 k hk
  by_cases e : r' = r ∧ k = j
  · obtain ⟨rfl, rfl⟩ := e
    rw [uI_I, if_neg (by omega), uI_I, if_pos ⟨rfl, rfl⟩, uI_I, if_pos ⟨rfl, rfl⟩]
  · rw [uI_I, if_neg (by omega), uI_I, if_neg (by omega), uI_I, if_neg (by omega), uI_I, if_neg (by omega)]
    exact this
theorem st_trans {h h1 h2 : gz_H} (a : gz_St h h1) (b : gz_St h1 h2) : gz_St h h2 := ⟨b.1, b.2.1.trans a.2.1, fun x k hx => (b.2.2 x k hx).trans (a.2.2 x k hx)⟩
/-- writes that don't touch each other change places -/
theorem uI_sw {h : gz_H} {a k b j : Nat} {v w : Int32} (e : a ≠ b ∨ k ≠ j) : uI (uI h a k v) b j w = uI (uI h b j w) a k v := by
  obtain ⟨s, I, L, R⟩ := h
  refine congrArg (Prod.mk s) (congrArg (fun x => (x, L, R)) ?_)
  show (uI (uI (s, I, L, R) a k v) b j w).2.1 = (uI (uI (s, I, L, R) b j w) a k v).2.1
  funext x y
  rw [uI_I, uI_I, uI_I, uI_I]
  by_cases c1 : x = a ∧ y = k
  · rw [if_neg (by omega), if_pos c1, if_pos c1]
  · rw [if_neg c1, if_neg c1]
theorem st_at {h : gz_H} (I : gz_In h) (x i : Int32) : gz_ag (fX8_at 0 x i) (fX9_at 85 x i) h (gz_St h) := by
  have I0 := I
  obtain ⟨H, F, Rw, Tx, Sc⟩ := I
  have S := H.rows F
  have x1 : ∀ (y : Int32) (h' : gz_H), fX8_refusalOfCell 0 1 x i h = some (y, h') → ¬ y = 0 → fX8_at 0 x i h = some (y, h') := by
    intro y h' e hy
    unfold fX8_at fX8_at_0
    rw [ck_t (H.ck rfl), H.rf 0 0 1 (by decide), br_s, e, b2_s, if_neg hy]
  have m1 : ∀ (y : Int32) (g h' : gz_H), gz_La g → fX9_refused 85 x i g = some (y, h') → ¬ y = 0 → fX9_at 85 x i g = some (y, h') := by
    intro y g h' Hg e hy
    unfold fX9_at fX9_at_0
    rw [ck_t (Hg.ck rfl), e, b2_s, if_neg hy]
  rcases p_cases x 6 (by decide) with hx | ⟨r, hr, rfl⟩
  · exact st_sameE I0 (v := -1) (X := fX8_at 0 x i) (M := fX9_at 85 x i) (x1 _ _ (x_ref_out H S hx) (by decide)) (m1 _ _ _ H (m_ref_out hx) (by decide))
  · obtain ⟨q1, q2, q3⟩ := Rw r hr
    have cl : (nI r).toNatClampNeg = r := nI_clamp (by omega)
    rcases q2 with e | ⟨n, hn, en⟩
    · exact st_findE I0 (f := 1) (by decide) (X := fX8_at 0 (nI r) i) (M := fX9_at 85 (nI r) i) (x1 _ _ (x_ref_no H S hr e i) (by decide)) (m1 _ _ _ (gz_xf_La H) (m_ref_no (gz_xf_La H) hr (by rw [gz_xf_I 91 r (by decide) (by decide), ← q1]; exact e) i) (by decide))
    · rcases p_cases i n (by omega) with hi | ⟨j, hj, rfl⟩
      · exact st_findE I0 (f := 2) (by decide) (X := fX8_at 0 (nI r) i) (M := fX9_at 85 (nI r) i) (x1 _ _ (x_ref_be H S hr (by omega) en hi) (by decide)) (m1 _ _ _ (gz_xf_La H) (m_ref_be (gz_xf_La H) hr (n := n) (by omega) (by rw [gz_xf_I 91 r (by decide) (by decide), ← q1]; exact en) hi) (by decide))
      · have cj : (nI j).toNatClampNeg = j := nI_clamp (by omega)
        refine ⟨1, uI h 0 18 (h.2.1 (3 + r) j), uI (uI h 0 18 (h.2.1 (3 + r) j)) 85 11 (h.2.1 (3 + r) j), ?_, H.1, ?_, st_ask I0 (gz_St.rf I0)⟩
        · unfold fX8_at fX8_at_0
          rw [ck_t (H.ck rfl), H.rf 0 0 1 (by decide), br_s, x_ref_ok S hr (by omega) en hj, b2_s, if_pos rfl, ck_t (H.ck rfl), H.rf 0 0 1 (by decide), br_s, ck_t (H.ck rfl), H.rf 1 1 2 (by decide), br_s, ck_t (inb_nI (k := 13) (n := 6) (H.sh rfl) hr (by decide)), cl, (S.2.2.2.2.2.1 r hr).1, br_s, ck_t (inb_nI (S.2.2.2.2.2.1 r hr).2 (by omega) (by decide)), cj, lt_d]
        · have H1 : gz_La (uI h 0 18 (h.2.1 (3 + r) j)) := H.of rfl rfl
          have m91 : (uI h 0 18 (h.2.1 (3 + r) j)).2.1 91 r = nI n := by rw [uI_I, if_neg (by omega), ← q1]; exact en
          have m92 : (uI h 0 18 (h.2.1 (3 + r) j)).2.1 92 (40 * r + j) = h.2.1 (3 + r) j := by rw [uI_I, if_neg (by omega), q3 j (by omega)]
          unfold fX9_at fX9_at_0
          rw [ck_t (H1.ck rfl), m_ref_ok H1 hr (by omega) m91 hj, b2_s, if_pos rfl, ck_t (H1.ck rfl), H1.rf 85 8 92 (by decide), br_s, show (40 : Int32) = nI 40 from rfl, n_mul, ck_t (inb_nI (k := 10) (n := 240) (H1.sh rfl) (by omega) (by decide)), nI_clamp (by omega), m92, p_tell H1, b2_s]
theorem st_lay {h : gz_H} (I : gz_In h) (x i v : Int32) : gz_ag (fX8_lay 0 x i v) (fX9_lay 85 x i v) h (gz_St h) := by
  have I0 := I
  obtain ⟨H, F, Rw, Tx, Sc⟩ := I
  have S := H.rows F
  have x1 : ∀ (y : Int32) (h' : gz_H), fX8_refusalOfCell 0 1 x i h = some (y, h') → ¬ y = 0 → fX8_lay 0 x i v h = some (y, h') := by
    intro y h' e hy
    unfold fX8_lay fX8_lay_0
    rw [ck_t (H.ck rfl), H.rf 0 0 1 (by decide), br_s, e, b2_s, if_neg hy]
  have m1 : ∀ (y : Int32) (g h' : gz_H), gz_La g → fX9_refused 85 x i g = some (y, h') → ¬ y = 0 → fX9_lay 85 x i v g = some (y, h') := by
    intro y g h' Hg e hy
    unfold fX9_lay fX9_lay_0
    rw [ck_t (Hg.ck rfl), e, b2_s, if_neg hy]
  rcases p_cases x 6 (by decide) with hx | ⟨r, hr, rfl⟩
  · exact st_sameE I0 (v := -1) (X := fX8_lay 0 x i v) (M := fX9_lay 85 x i v) (x1 _ _ (x_ref_out H S hx) (by decide)) (m1 _ _ _ H (m_ref_out hx) (by decide))
  · obtain ⟨q1, q2, q3⟩ := Rw r hr
    have cl : (nI r).toNatClampNeg = r := nI_clamp (by omega)
    rcases q2 with e | ⟨n, hn, en⟩
    · exact st_findE I0 (f := 1) (by decide) (X := fX8_lay 0 (nI r) i v) (M := fX9_lay 85 (nI r) i v) (x1 _ _ (x_ref_no H S hr e i) (by decide)) (m1 _ _ _ (gz_xf_La H) (m_ref_no (gz_xf_La H) hr (by rw [gz_xf_I 91 r (by decide) (by decide), ← q1]; exact e) i) (by decide))
    · rcases p_cases i n (by omega) with hi | ⟨j, hj, rfl⟩
      · exact st_findE I0 (f := 2) (by decide) (X := fX8_lay 0 (nI r) i v) (M := fX9_lay 85 (nI r) i v) (x1 _ _ (x_ref_be H S hr (by omega) en hi) (by decide)) (m1 _ _ _ (gz_xf_La H) (m_ref_be (gz_xf_La H) hr (n := n) (by omega) (by rw [gz_xf_I 91 r (by decide) (by decide), ← q1]; exact en) hi) (by decide))
      · have cj : (nI j).toNatClampNeg = j := nI_clamp (by omega)
        generalize ho : h.2.1 (3 + r) j = o
        have hsr := S.2.2.2.2.2.1 r hr
        refine ⟨1, uI (uI h 0 18 o) (3 + r) j v, uI (uI (uI (uI h 0 18 o) (3 + r) j v) 92 (40 * r + j) v) 85 11 o, ?_, H.1, ?_, ?_⟩
        · unfold fX8_lay fX8_lay_0
          rw [ck_t (H.ck rfl), H.rf 0 0 1 (by decide), br_s, x_ref_ok S hr (by omega) en hj, b2_s, if_pos rfl, ck_t (H.ck rfl), H.rf 0 0 1 (by decide), br_s, ck_t (H.ck rfl), H.rf 1 1 2 (by decide), br_s, ck_t (inb_nI (k := 13) (n := 6) (H.sh rfl) hr (by decide)), cl, hsr.1, br_s, ck_t (inb_nI hsr.2 (by omega) (by decide)), cj, ho]
          simp only [lt_d, uI_1, uI_R, uI_L, uF_1, uF_R, uF_L, uL_1, uL_I, uL_R, uR_1, uR_I, uR_L, inb_uI, inb_uF, inb_uL, inb_uR, len_uI, len_uF, sh_uI, sh_uF, sh_uL, sh_uR]
          rw [ck_t (H.ck rfl), H.rf 0 0 1 (by decide), br_s, ck_t (H.ck rfl), H.rf 1 1 2 (by decide), br_s, ck_t (inb_nI (k := 13) (n := 6) (H.sh rfl) hr (by decide)), hsr.1, br_s, ck_t (inb_nI hsr.2 (by omega) (by decide))]
        · have H1 : gz_La (uI (uI h 0 18 o) (3 + r) j v) := H.of rfl rfl
          have m91 : (uI (uI h 0 18 o) (3 + r) j v).2.1 91 r = nI n := by rw [uI_I, if_neg (by omega), uI_I, if_neg (by omega), ← q1]; exact en
          have m92 : (uI (uI h 0 18 o) (3 + r) j v).2.1 92 (40 * r + j) = o := by rw [uI_I, if_neg (by omega), uI_I, if_neg (by omega), ← q3 j (by omega)]; exact ho
          have H2 : gz_La (uI (uI (uI h 0 18 o) (3 + r) j v) 92 (40 * r + j) v) := H.of rfl rfl
          unfold fX9_lay fX9_lay_0
          rw [ck_t (H1.ck rfl), m_ref_ok H1 hr (by omega) m91 hj, b2_s, if_pos rfl, ck_t (H1.ck rfl), H1.rf 85 8 92 (by decide), br_s, show (40 : Int32) = nI 40 from rfl, n_mul, ck_t (inb_nI (k := 10) (n := 240) (H1.sh rfl) (by omega) (by decide)), nI_clamp (by omega), m92, lt_d, lt_d, ck_t (H2.ck rfl), p_tell H2, b2_s]
        · have e1 : uI (uI (uI (uI h 0 18 o) (3 + r) j v) 92 (40 * r + j) v) 85 11 o = uI (uI (uI (uI h (3 + r) j v) 92 (40 * r + j) v) 0 18 o) 85 11 o := by
            rw [uI_sw (h := h) (a := 0) (b := 3 + r) (by omega), uI_sw (a := 0) (b := 92) (by omega)]
          rw [e1]
          have T := rw_put (n := n) I0 hr (show j < 40 by omega) v
          exact st_ask T.1 T
theorem ag_iv {α : Type} {X M : gz_H → Option (α × gz_H)} {h : gz_H} (I : gz_Iv h) (A : gz_ag X M h (gz_St h)) : gz_ag X M h gz_Iv := by
  obtain ⟨v, h1, h2, e1, e2, e3, p⟩ := A
  exact ⟨v, h1, h2, e1, e2, e3, p.iv I⟩
theorem op_tear {h : gz_H} (I : gz_Iv h) (x1 : Int32) : gz_ag (fX8_tear 0 x1) (fX9_tear 85 x1) h gz_Iv := ag_iv I (st_tear I.1 x1)
theorem op_at {h : gz_H} (I : gz_Iv h) (x1 x2 : Int32) : gz_ag (fX8_at 0 x1 x2) (fX9_at 85 x1 x2) h gz_Iv := ag_iv I (st_at I.1 x1 x2)
theorem op_lay {h : gz_H} (I : gz_Iv h) (x1 x2 x3 : Int32) : gz_ag (fX8_lay 0 x1 x2 x3) (fX9_lay 85 x1 x2 x3) h gz_Iv := ag_iv I (st_lay I.1 x1 x2 x3)
theorem op_asked {h : gz_H} (I : gz_Iv h) : gz_ag (fX8_asked 0) (fX9_asked 85) h gz_Iv := by
  obtain ⟨H, F, Rw, Tx, Sc⟩ := I.1
  refine ⟨h.2.1 0 18, h, h, ?_, H.1, ?_, I⟩
  · unfold fX8_asked fX8_asked_0
    rw [ck_t (H.ck rfl)]
  · unfold fX9_asked fX9_asked_0
    rw [ck_t (H.ck rfl), Sc.1]
theorem op_finding {h : gz_H} (I : gz_Iv h) : gz_ag (fX8_finding 0) (fX9_finding 85) h gz_Iv := by
  obtain ⟨H, F, Rw, Tx, Sc⟩ := I.1
  refine ⟨h.2.1 18 1, h, h, ?_, H.1, ?_, I⟩
  · unfold fX8_finding fX8_finding_0
    rw [ck_t (H.ck rfl), H.rf 0 3 18 (by decide), br_s, ck_t (H.ck rfl)]
  · unfold fX9_finding fX9_finding_0
    rw [ck_t (H.ck rfl), Sc.2.1]
theorem op_upper {h : gz_H} (I : gz_Iv h) : gz_ag (fX8_upper 0) (fX9_upper 85) h gz_Iv := by
  obtain ⟨H, F, Rw, Tx, Sc⟩ := I.1
  refine ⟨h.2.2.1 20 0, h, h, ?_, H.1, ?_, I⟩
  · unfold fX8_upper fX8_upper_0
    rw [ck_t (H.ck rfl), H.rf 0 4 20 (by decide), br_s, ck_t (H.ck rfl)]
  · unfold fX9_upper fX9_upper_0
    rw [ck_t (H.ck rfl), Sc.2.2.2.1]
theorem op_lower {h : gz_H} (I : gz_Iv h) : gz_ag (fX8_lower 0) (fX9_lower 85) h gz_Iv := by
  obtain ⟨H, F, Rw, Tx, Sc⟩ := I.1
  refine ⟨h.2.2.1 20 1, h, h, ?_, H.1, ?_, I⟩
  · unfold fX8_lower fX8_lower_0
    rw [ck_t (H.ck rfl), H.rf 0 4 20 (by decide), br_s, ck_t (H.ck rfl)]
  · unfold fX9_lower fX9_lower_0
    rw [ck_t (H.ck rfl), Sc.2.2.2.2]
