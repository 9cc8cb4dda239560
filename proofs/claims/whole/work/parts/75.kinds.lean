/-! PURE: a row is a report, or isn't; kinds agrees -/
section
variable {h : gz_H} {T : gz_T} {E : gz_D}
/-- the reference's row, as the pairs -/
def PRm (q : gz_H) (r M : Nat) (pp ss : Nat → Nat) : Prop := q.2.1 91 r = nI (2 * M) ∧ ∀ k, k < M → q.2.1 92 (40 * r + 2 * k) = nI (pp k) ∧ q.2.1 92 (40 * r + 2 * k + 1) = nI (ss k)
theorem m_np_ok (V : MV h T E) {r M : Nat} (hr : r < 6) (hM : M ≤ 20) {pp ss : Nat → Nat} (hb : ∀ k, k < M → pp k < 6 ∧ ss k < 2 ^ T.1) (R : PRm h r M pp ss) : fX9_noPairs 85 (nI r) h = some (0, h) := by
  have H := V.H
  unfold fX9_noPairs fX9_noPairs_0
  rw [ck_t (sh_85 H), rf_85_7 H, br_s, ck_t (in_91 H hr), nI_clamp (by omega), R.1, if_pos (nI_pos' (by omega)), show (2 : Int32) = nI 2 from rfl, pk_rem (by omega) (by omega) (by omega), if_pos (show nI (2 * M % 2) = 0 by rw [Nat.mul_mod_right]; rfl)]
  have hfu : M < 0 + gz_fu := by show M < 0 + 100000; omega
  generalize gz_fu = fu at hfu ⊢
  refine lp (fun m k (_ : Unit) => fX9_noPairs_36 m 85 (nI r) (1 : Int32) (nI (2 * k)) h) (fun _ => ()) M _ ?_ ?_ fu 0 (by omega) hfu
  · intro m
    rw [fX9_noPairs_36, ck_t (sh_85 H), rf_85_7 H, br_s, ck_t (in_91 H hr), nI_clamp (by omega), R.1, if_pos (nI_le (Nat.le_refl _) (by omega)), if_neg (by decide)]
  · intro m k hk
    obtain ⟨b1, b2⟩ := hb k hk
    obtain ⟨c1, c2⟩ := R.2 k hk
    rw [fX9_noPairs_36, ck_t (sh_85 H), rf_85_7 H, br_s, ck_t (in_91 H hr), nI_clamp (by omega), R.1, if_neg (nI_ge (by omega) (by omega)), if_neg (by decide), rf_85_8 H, br_s, show (40 : Int32) = nI 40 from rfl, n_mul, ck_t (in_92 H (by omega)), nI_clamp (by omega), c1, m_place_in b1, b2_s, if_neg (by decide), ck_t (sh_85 H), rf_85_8 H, br_s, nI_1, ck_t (in_92 H (by omega)), nI_clamp (by omega), c2, m_set_in V b2, b2_s, if_neg (by decide)]
    unfold fX9_noPairs_92
    rw [n_p2]
theorem m_np_bad (V : MV h T E) {r M k0 : Nat} (hr : r < 6) (hM : M ≤ 20) (h0 : k0 < M) {c : Nat → Int32} (hz : h.2.1 91 r = nI (2 * M)) (hc : ∀ k, k < 40 → h.2.1 92 (40 * r + k) = c k) (ok : ∀ k, k < k0 → ¬ (p_out (c (2 * k)) 6 ∨ p_out (c (2 * k + 1)) (2 ^ T.1))) (bad : p_out (c (2 * k0)) 6 ∨ p_out (c (2 * k0 + 1)) (2 ^ T.1)) : fX9_noPairs 85 (nI r) h = some (-3, gz_mf h 3) := by
  have H := V.H
  have b := V.b
  have p1 := p2_lt b.1
  unfold fX9_noPairs fX9_noPairs_0
  rw [ck_t (sh_85 H), rf_85_7 H, br_s, ck_t (in_91 H hr), nI_clamp (by omega), hz, if_pos (nI_pos' (by omega)), show (2 : Int32) = nI 2 from rfl, pk_rem (by omega) (by omega) (by omega), if_pos (show nI (2 * M % 2) = 0 by rw [Nat.mul_mod_right]; rfl)]
  have hfu : M < 0 + gz_fu := by show M < 0 + 100000; omega
  generalize gz_fu = fu at hfu ⊢
  have e0 : (1 : Int32) = nI (if 0 ≤ k0 then 1 else 0) := by rw [if_pos (Nat.zero_le _)]; rfl
  rw [e0]
  refine lp (fun m k (y : Int32) => fX9_noPairs_36 m 85 (nI r) y (nI (2 * k)) h) (fun k => nI (if k ≤ k0 then 1 else 0)) M _ ?_ ?_ fu 0 (by omega) hfu
  · intro m
    show fX9_noPairs_36 (m + 1) 85 (nI r) (nI (if M ≤ k0 then 1 else 0)) (nI (2 * M)) h = _
    rw [fX9_noPairs_36, ck_t (sh_85 H), rf_85_7 H, br_s, ck_t (in_91 H hr), nI_clamp (by omega), hz, if_pos (nI_le (Nat.le_refl _) (by omega)), if_neg (show ¬ M ≤ k0 by omega), if_pos (by decide), show (3 : Int32) = nI 3 from rfl, p_find H (by decide), b2_s]
    rfl
  · intro m k hk
    show fX9_noPairs_36 (m + 1) 85 (nI r) (nI (if k ≤ k0 then 1 else 0)) (nI (2 * k)) h = fX9_noPairs_36 m 85 (nI r) (nI (if k + 1 ≤ k0 then 1 else 0)) (nI (2 * (k + 1))) h
    have c1 := hc (2 * k) (by omega)
    have c2 : h.2.1 92 (40 * r + 2 * k + 1) = c (2 * k + 1) := hc (2 * k + 1) (by omega)
    rw [fX9_noPairs_36, ck_t (sh_85 H), rf_85_7 H, br_s, ck_t (in_91 H hr), nI_clamp (by omega), hz, if_neg (nI_ge (by omega) (by omega))]
    by_cases q : k ≤ k0
    · rw [if_pos q, if_neg (by decide), rf_85_8 H, br_s, show (40 : Int32) = nI 40 from rfl, n_mul, ck_t (in_92 H (by omega)), nI_clamp (by omega), c1]
      have no : ∀ y : Int32, (y = 0) → fX9_noPairs_91 (fun z0 z1 z2 z3 zh => fX9_noPairs_36 m z0 z1 z2 z3 zh) 85 (nI r) (nI (2 * k)) h = fX9_noPairs_36 m 85 (nI r) y (nI (2 * (k + 1))) h := by
        intro y ey
        unfold fX9_noPairs_91 fX9_noPairs_92
        rw [n_p2, ey]
      rcases p_cases (c (2 * k)) 6 (by decide) with z | ⟨p, hp, e1⟩
      · have : k = k0 := by
          rcases Nat.lt_or_ge k k0 with y | y
          · exact absurd (Or.inl z) (ok k y)
          · omega
        rw [m_place_out z, b2_s, if_pos (by decide), if_neg (show ¬ k + 1 ≤ k0 by omega)]
        exact no _ rfl
      · rw [e1, m_place_in hp, b2_s, if_neg (by decide), ck_t (sh_85 H), rf_85_8 H, br_s, nI_1, ck_t (in_92 H (by omega)), nI_clamp (by omega), c2]
        rcases p_cases (c (2 * k + 1)) (2 ^ T.1) (by omega) with z | ⟨s, hs, e2⟩
        · have : k = k0 := by
            rcases Nat.lt_or_ge k k0 with y | y
            · exact absurd (Or.inr z) (ok k y)
            · omega
          rw [m_set_out V z, b2_s, if_pos (by decide), if_neg (show ¬ k + 1 ≤ k0 by omega)]
          exact no _ rfl
        · have : ¬ k = k0 := by
            intro y
            rw [y] at e1 e2
            rcases bad with z | z
            · rw [e1] at z
              have := p_out_toInt (by decide) z
              rw [nI_toInt (by omega)] at this
              omega
            · rw [e2] at z
              have := p_out_toInt (by omega) z
              rw [nI_toInt (by omega)] at this
              omega
          rw [e2, m_set_in V hs, b2_s, if_neg (by decide), if_pos (show k + 1 ≤ k0 by omega)]
          unfold fX9_noPairs_92
          rw [n_p2]
          rfl
    · rw [if_neg q, if_pos (by decide), if_neg (show ¬ k + 1 ≤ k0 by omega)]
      unfold fX9_noPairs_91 fX9_noPairs_92
      rw [n_p2]
      rfl
theorem x_rr0 (I : gz_In h) {r : Nat} (hr : r < 6) {n : Nat} (hn : n ≤ 40) (e : h.2.1 9 r = nI n) : fX8_readReport 0 (nI r) h = if nI (n % 2) = 0 then fX8_readReport_58 gz_fu 0 (nI n) (3 + r) (0 : Int32) h else some (-3, gz_xf h 5) := by
  have H := I.1
  have S := H.rows I.2.1
  unfold fX8_readReport fX8_readReport_0
  rw [ck_t (sh_0 H), rf_0_0 H, br_s, ck_t (sh_1 H), p_has1 S hr (by rw [e]; exact n_ne n (by omega)), b2_s, if_neg (by decide), ck_t (sh_0 H), rf_0_0 H, br_s, ck_t (sh_1 H), rf_1_2 H, br_s, ck_t (in_9 H hr), rf_1_1 H, br_s, ck_t (in_2 H hr), nI_clamp (by omega), rf_2 H hr, br_s, e, show (2 : Int32) = nI 2 from rfl, pk_rem (by omega) (by omega) (by omega), rf_0_3 H, br_s, ck_t (sh_18 H), show (5 : Int32) = nI 5 from rfl, p_answer H (by decide), b2_s]
theorem rep (I : gz_Iv h) (V : XV h T E) (W : MV h T E) {r : Nat} (hr : r < 6) : (∃ f, f < 6 ∧ fX8_readReport 0 (nI r) h = some (-3, gz_xf h f) ∧ fX9_noPairs 85 (nI r) (gz_xf h f) = some (-3, gz_mf (gz_xf h f) f)) ∨ (∃ h' M pp ss, M ≤ 20 ∧ (∀ k, k < M → pp k < 6 ∧ ss k < 2 ^ T.1) ∧ fX8_readReport 0 (nI r) h = some (0, h') ∧ sc h h' ∧ RP h' pp ss M ∧ PRm h r M pp ss) := by
  have H := V.H
  have b := V.b
  have p1 := p2_lt b.1
  have S := H.rows I.1.2.1
  obtain ⟨t1, t2, t3⟩ := I.1.2.2.1 r hr
  rcases t2 with e | ⟨n, hn, e⟩
  · refine Or.inl ⟨1, by decide, ?_, ?_⟩
    · unfold fX8_readReport fX8_readReport_0
      rw [ck_t (sh_0 H), rf_0_0 H, br_s, ck_t (sh_1 H), p_has0 S hr e, b2_s, if_pos (by decide), ck_t (sh_0 H), rf_0_3 H, br_s, ck_t (sh_18 H), show (1 : Int32) = nI 1 from rfl, p_answer H (by decide), b2_s]
    · have H1 := gz_xf_La (f := 1) H
      have e1 : (gz_xf h 1).2.1 91 r = -1 := by rw [gz_xf_I 91 r (by decide) (by decide), ← t1]; exact e
      unfold fX9_noPairs fX9_noPairs_0
      rw [ck_t (sh_85 H1), rf_85_7 H1, br_s, ck_t (in_91 H1 hr), nI_clamp (by omega), e1, if_neg (by decide), show (1 : Int32) = nI 1 from rfl, p_find H1 (by decide), b2_s]
  · have X0 := x_rr0 I.1 hr hn e
    have nz : nI (n % 2) = 0 ↔ n % 2 = 0 := nI_z (by omega)
    by_cases o : n % 2 = 0
    · rw [if_pos (nz.mpr o)] at X0
      obtain ⟨M, rfl⟩ : ∃ M, n = 2 * M := ⟨n / 2, by omega⟩
      rcases fst_bad (fun k => p_out (h.2.1 (3 + r) (2 * k)) 6 ∨ p_out (h.2.1 (3 + r) (2 * k + 1)) (2 ^ T.1)) M with ok | ⟨k0, h0, bad, ok⟩
      · refine Or.inr ?_
        have pr : ∀ k, k < M → (h.2.1 (3 + r) (2 * k)).toNatClampNeg < 6 ∧ (h.2.1 (3 + r) (2 * k + 1)).toNatClampNeg < 2 ^ T.1 ∧ h.2.1 (3 + r) (2 * k) = nI (h.2.1 (3 + r) (2 * k)).toNatClampNeg ∧ h.2.1 (3 + r) (2 * k + 1) = nI (h.2.1 (3 + r) (2 * k + 1)).toNatClampNeg := by
          intro k hk
          have q := ok k hk
          rcases p_cases (h.2.1 (3 + r) (2 * k)) 6 (by decide) with z | ⟨p, hp, e1⟩
          · exact absurd (Or.inl z) q
          · rcases p_cases (h.2.1 (3 + r) (2 * k + 1)) (2 ^ T.1) (by omega) with z | ⟨s, hs, e2⟩
            · exact absurd (Or.inr z) q
            · rw [e1, e2, nI_clamp (by omega), nI_clamp (by omega)]
              exact ⟨hp, hs, rfl, rfl⟩
        obtain ⟨h', e', s', R⟩ := x_pairs V hr (M := M) (by omega) (pp := fun k => (h.2.1 (3 + r) (2 * k)).toNatClampNeg) (ss := fun k => (h.2.1 (3 + r) (2 * k + 1)).toNatClampNeg) (fun k hk => ⟨(pr k hk).1, (pr k hk).2.1⟩) (fun k hk => ⟨(pr k hk).2.2.1, (pr k hk).2.2.2⟩)
        refine ⟨h', M, _, _, by omega, fun k hk => ⟨(pr k hk).1, (pr k hk).2.1⟩, ?_, s', R, by rw [← t1]; exact e, fun k hk => ⟨by rw [← t3 (2 * k) (by omega)]; exact (pr k hk).2.2.1, by rw [Nat.add_assoc, ← t3 (2 * k + 1) (by omega)]; exact (pr k hk).2.2.2⟩⟩
        rw [X0]
        have hfu : M < 0 + gz_fu := by show M < 0 + 100000; omega
        generalize gz_fu = fu at hfu
        refine lp (fun m k (_ : Unit) => fX8_readReport_58 m 0 (nI (2 * M)) (3 + r) (nI (2 * k)) h) (fun _ => ()) M _ ?_ ?_ fu 0 (by omega) hfu
        · intro m
          rw [fX8_readReport_58, n_p1, if_pos (nI_le (by omega) (by omega)), ck_t (sh_0 H), rf_0_5 H, br_s, ck_t (sh_21 H), e', b2_s]
        · intro m k hk
          exact x_rr_ok V hr hk (by omega) (pr k hk).1 (pr k hk).2.1 (pr k hk).2.2.1 (pr k hk).2.2.2
      · refine Or.inl ⟨3, by decide, ?_, ?_⟩
        · rw [X0]
          have hfu : k0 < 0 + gz_fu := by show k0 < 0 + 100000; omega
          generalize gz_fu = fu at hfu
          refine lp (fun m k (_ : Unit) => fX8_readReport_58 m 0 (nI (2 * M)) (3 + r) (nI (2 * k)) h) (fun _ => ()) k0 _ ?_ ?_ fu 0 (by omega) hfu
          · intro m
            exact x_rr_bad V hr h0 (by omega) bad
          · intro m k hk
            have q := ok k hk
            rcases p_cases (h.2.1 (3 + r) (2 * k)) 6 (by decide) with z | ⟨p, hp, e1⟩
            · exact absurd (Or.inl z) q
            · rcases p_cases (h.2.1 (3 + r) (2 * k + 1)) (2 ^ T.1) (by omega) with z | ⟨s, hs, e2⟩
              · exact absurd (Or.inr z) q
              · exact x_rr_ok V hr (by omega) (by omega) hp hs e1 e2
        · exact m_np_bad (W.kp kp.xf) hr (M := M) (by omega) h0 (by rw [gz_xf_I 91 r (by decide) (by decide), ← t1]; exact e) (fun k hk => by rw [gz_xf_I 92 _ (by decide) (by decide), ← t3 k hk]) ok bad
    · rw [if_neg (fun z => o (nz.mp z))] at X0
      refine Or.inl ⟨5, by decide, X0, ?_⟩
      have H1 := gz_xf_La (f := 5) H
      have e1 : (gz_xf h 5).2.1 91 r = nI n := by rw [gz_xf_I 91 r (by decide) (by decide), ← t1]; exact e
      unfold fX9_noPairs fX9_noPairs_0
      rw [ck_t (sh_85 H1), rf_85_7 H1, br_s, ck_t (in_91 H1 hr), nI_clamp (by omega), e1, if_pos (nI_pos' (by omega)), show (2 : Int32) = nI 2 from rfl, pk_rem (by omega) (by omega) (by omega), if_neg (fun z => o (nz.mp z)), show (5 : Int32) = nI 5 from rfl, p_find H1 (by decide), b2_s]
def kdS (T : gz_T) (l : List Nat) (mo : Nat) (pp ss : Nat → Nat) (M : Nat) (k : Nat) : Nat := fo (fun kd => if fit pp ss (ta T kd mo l) M = true then 2 ^ kd else 0) k
theorem ta_lt8 {l : List Nat} {kd mo p : Nat} (hF : T.1 ≤ 8) (hb : ∀ f ∈ l, f < T.1) : ta T kd mo l p < 256 := ta_lt (b := 8) (fun f hf => Nat.lt_of_lt_of_le (hb f hf) hF)
theorem op_kinds (I : gz_Iv h) (x1 x2 : Int32) : gz_ag (fX8_kinds 0 x1 x2) (fX9_kinds 85 x1 x2) h gz_Iv := by
  obtain ⟨T, D, ds, ks, sa, F⟩ := I.2
  have V := F.xv I.1.1
  have W := F.mv I.1.1
  have H := V.H
  have b := V.b
  have p1 := p2_lt b.1
  have S := H.rows I.1.2.1
  rcases p_cases x1 T.2.1 (by omega) with hx | ⟨i, hi, rfl⟩
  · refine ag_no I (y := -1) ?_ ?_
    · unfold fX8_kinds fX8_kinds_0
      rw [ck_t (sh_0 H), rf_0_9 H, br_s, ck_t (sh_28 H), x_goose_out V hx, b2_s, if_pos (by decide)]
    · unfold fX9_kinds fX9_kinds_0
      rw [ck_t (sh_85 H), m_goose_out W hx, b2_s, if_pos (by decide)]
  rcases p_cases x2 6 (by omega) with hx | ⟨r, hr, rfl⟩
  · refine ag_no I (y := -1) ?_ ?_
    · unfold fX8_kinds fX8_kinds_0
      rw [ck_t (sh_0 H), rf_0_9 H, br_s, ck_t (sh_28 H), x_goose_in V hi, b2_s, if_neg (by decide), ck_t (sh_0 H), rf_0_0 H, br_s, ck_t (sh_1 H), p_knows_out S hx, b2_s, if_pos (by decide)]
    · unfold fX9_kinds fX9_kinds_0
      rw [ck_t (sh_85 H), m_goose_in W hi, b2_s, if_neg (by decide), p_isRow_out hx, b2_s, if_pos (by decide)]
  have X0 : fX8_kinds 0 (nI i) (nI r) h = gz_b2 (fX8_readReport 0 (nI r) h) (fun y_14 h_13 => if y_14 = 0 then fX8_kinds_42 gz_fu 0 (nI i) (0 : Int32) (0 : Int32) h_13 else some (y_14, h_13)) := by
    unfold fX8_kinds fX8_kinds_0
    rw [ck_t (sh_0 H), rf_0_9 H, br_s, ck_t (sh_28 H), x_goose_in V hi, b2_s, if_neg (by decide), ck_t (sh_0 H), rf_0_0 H, br_s, ck_t (sh_1 H), p_knows_in S hr, b2_s, if_neg (by decide), ck_t (sh_0 H)]
  have M0 : ∀ q, MV q T (rn T D ds) → fX9_kinds 85 (nI i) (nI r) q = gz_b2 (fX9_noPairs 85 (nI r) q) (fun y_9 h_8 => if y_9 = 0 then gz_ck (gz_sh h_8 85 9 29) (gz_b2 (fX9_layHeld 85 (nI i) h_8) fun _ h_12 => fX9_kinds_40 gz_fu 85 (nI i) (nI r) (0 : Int32) (0 : Int32) h_12) else some (y_9, h_8)) := by
    intro q Wq
    have Hq := Wq.H
    unfold fX9_kinds fX9_kinds_0
    rw [ck_t (sh_85 Hq), m_goose_in Wq hi, b2_s, if_neg (by decide), p_isRow_in hr, b2_s, if_neg (by decide), ck_t (sh_85 Hq)]
  rcases rep I V W hr with ⟨f, hf, e1, e2⟩ | ⟨h1, M, pp, ss, hM, hb, e1, s1, R, P⟩
  · refine ag_iv I (st_findE I.1 (f := f) hf ?_ ?_)
    · rw [X0, e1, b2_s, if_neg (by decide)]
    · rw [M0 _ (W.kp kp.xf), e2, b2_s, if_neg (by decide)]
  · have V1 := V.sc s1
    have W1 := W.sc s1
    have H1 := V1.H
    have P1 : PRm h1 r M pp ss := ⟨by rw [s1.2.2 91 r (by unfold scr; omega)]; exact P.1, fun k hk => by rw [s1.2.2 92 _ (by unfold scr; omega), s1.2.2 92 _ (by unfold scr; omega)]; exact P.2 k hk⟩
    obtain ⟨h2, e2, s2, TR2⟩ := m_layHeld W1 hi
    have W2 := W1.sc s2
    have H2 := W2.H
    have P2 : PRm h2 r M pp ss := ⟨by rw [s2.2.2 91 r (by unfold scr; omega)]; exact P1.1, fun k hk => by rw [s2.2.2 92 _ (by unfold scr; omega), s2.2.2 92 _ (by unfold scr; omega)]; exact P1.2 k hk⟩
    have bi := W.bi i hi
    have lt := (V.2.2.1 i hi)
    have wb := V.2.1.bi i hi
    refine q_same I (v := nI (kdS T (rn T D ds i).1 (T.2.2.2.2.1 i) pp ss M 6)) fun _ _ _ _ => ⟨h1, h2, ?_, s1, ?_, s2⟩
    · rw [X0, e1, b2_s, if_pos rfl]
      have hfu : 6 < 0 + gz_fu := by show 6 < 0 + 100000; omega
      generalize gz_fu = fu at hfu
      refine lp (fun m k (y : Int32) => fX8_kinds_42 m 0 (nI i) y (nI k) h1) (fun k => nI (kdS T (rn T D ds i).1 (T.2.2.2.2.1 i) pp ss M k)) 6 _ ?_ ?_ fu 0 (by omega) hfu
      · intro m
        rw [fX8_kinds_42, if_pos (by decide)]
      · intro m k hk
        have ef := x_fits (kd := nI k) H1 R (sgk_31 H1 (j := i) (by omega)) (tl := ta T k (T.2.2.2.2.1 i) (rn T D ds i).1) (fun p hp => x_toldAs V1 (V1.gv i hi) lt.2.2.1 (by omega) hp (V1.mo i hi) wb.2.2.1) (fun p hp => ta_lt8 b.1 lt.2.2.1)
        have es : kdS T (rn T D ds i).1 (T.2.2.2.2.1 i) pp ss M (k + 1) = kdS T (rn T D ds i).1 (T.2.2.2.2.1 i) pp ss M k ||| (if fit pp ss (ta T k (T.2.2.2.2.1 i) (rn T D ds i).1) M = true then 2 ^ k else 0) := rfl
        have e9 : (1 : Int32) <<< (nI k &&& 31) = nI (2 ^ k) := nI_shl (by omega)
        rw [fX8_kinds_42, if_neg (show ¬ (6 : Int32) ≤ nI k from nI_ge hk (by decide)), ck_t (sh_0 H1), rf_0_5 H1, br_s, rf_0_9 H1, br_s, ck_t (sh_28 H1), rf_28_1 H1, br_s, ck_t (in_30 H1 (by omega)), nI_clamp (by omega), rf_30 H1 (by omega), br_s, rf_28_0 H1, br_s, ck_t (sh_21 H1), ef, b2_s, es]
        unfold fX8_kinds_86
        rw [nI_1, e9, nI_or]
        by_cases c : fit pp ss (ta T k (T.2.2.2.2.1 i) (rn T D ds i).1) M = true
        · rw [if_pos c, if_neg (by decide), if_pos c]
        · rw [if_neg c, if_pos (by decide), if_neg c, Nat.or_zero]
    · rw [M0 _ W1, m_np_ok W1 hr hM hb P1, b2_s, if_pos rfl, ck_t (sh_85 H1), e2, b2_s]
      have hfu : 6 < 0 + gz_fu := by show 6 < 0 + 100000; omega
      generalize gz_fu = fu at hfu
      refine lp (fun m k (y : Int32) => fX9_kinds_40 m 85 (nI i) (nI r) y (nI k) h2) (fun k => nI (kdS T (rn T D ds i).1 (T.2.2.2.2.1 i) pp ss M k)) 6 _ ?_ ?_ fu 0 (by omega) hfu
      · intro m
        rw [fX9_kinds_40, if_pos (by decide)]
      · intro m k hk
        have ef := m_isSo (kd := nI k) (mo := nI (T.2.2.2.2.1 i)) H2 hr hM P2.1 P2.2 (fun k hk => ⟨(hb k hk).1, by have := (hb k hk).2; omega⟩) (tl := ta T k (T.2.2.2.2.1 i) (rn T D ds i).1) (fun p hp => m_tellsTried W2 TR2 (by have := lt.1; omega) lt.2.2.1 (by omega) hp wb.2.2.1 lt.1) (fun p hp => ta_lt8 b.1 lt.2.2.1)
        have es : kdS T (rn T D ds i).1 (T.2.2.2.2.1 i) pp ss M (k + 1) = kdS T (rn T D ds i).1 (T.2.2.2.2.1 i) pp ss M k ||| (if fit pp ss (ta T k (T.2.2.2.2.1 i) (rn T D ds i).1) M = true then 2 ^ k else 0) := rfl
        have e9 : (1 : Int32) <<< (nI k &&& 31) = nI (2 ^ k) := nI_shl (by omega)
        rw [fX9_kinds_40, if_neg (show ¬ (6 : Int32) ≤ nI k from nI_ge hk (by decide)), ck_t (sh_85 H2), rf_85_5 H2, br_s, ck_t (in_89 H2 (by omega)), nI_clamp (by omega), W2.mo i hi, ef, b2_s, es]
        unfold fX9_kinds_73
        rw [nI_1, e9, show (0 : Int32) = nI 0 from rfl, nI_or, nI_or]
        by_cases c : fit pp ss (ta T k (T.2.2.2.2.1 i) (rn T D ds i).1) M = true
        · rw [if_pos c, if_neg (by decide), if_pos c]
        · rw [if_neg c, if_pos (by decide), if_neg c]
end
