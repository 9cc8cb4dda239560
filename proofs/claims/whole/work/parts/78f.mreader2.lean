/-! PURE: the reference's reader: geese, a whole text -/
section
variable {h q q' : gz_H} {t n p : Nat} {c : Nat → Int32}
theorem m_kind (x : Int32) : fX9_kindOfLetter x q = some (enc (ltN x), q) := by
  unfold fX9_kindOfLetter fX9_kindOfLetter_0 ltN
  by_cases a0 : x = 103
  · rw [if_pos a0, if_pos a0]; rfl
  rw [if_neg a0, if_neg a0]
  by_cases a1 : x = 97
  · rw [if_pos a1, if_pos a1]; rfl
  rw [if_neg a1, if_neg a1]
  by_cases a2 : x = 116
  · rw [if_pos a2, if_pos a2]; rfl
  rw [if_neg a2, if_neg a2]
  by_cases a3 : x = 104
  · rw [if_pos a3, if_pos a3]; rfl
  rw [if_neg a3, if_neg a3]
  by_cases a4 : x = 108
  · rw [if_pos a4, if_pos a4]; rfl
  rw [if_neg a4, if_neg a4]
  by_cases a5 : x = 115
  · rw [if_pos a5, if_pos a5]; rfl
  rw [if_neg a5, if_neg a5]
  rfl
theorem mG_add {G : List gz_Gs} {kd mo rk : Nat} {l : List Nat} (hG : G.length < 6) (hl : l.length ≤ 8) (x : mG q G) (al : ∀ i, i < G.length → (G.getD i g0).2.2.2.length ≤ 8) (lc : ∀ k, k < l.length → q.2.1 99 (8 * G.length + k) = nI (l.getD k 0)) : mG (uI (uI (uI (uI (uI q 97 (3 * G.length) (nI kd)) 97 (3 * G.length + 1) (nI mo)) 97 (3 * G.length + 2) (nI rk)) 98 G.length (nI l.length)) 85 24 (nI (G.length + 1))) (G ++ [(kd, mo, rk, l)]) := by
  refine ⟨by rw [uI_at, List.length_append]; rfl, fun i hi => ?_⟩
  rw [List.length_append] at hi
  have hi : i < G.length + 1 := hi
  by_cases z : i = G.length
  · subst z
    rw [gl_at]
    refine ⟨?_, ?_, ?_, ?_, fun k hk => ?_⟩
    · rw [uI_ne (by omega), uI_ne (by omega), uI_ne (by omega), uI_ne (by omega), uI_at]
    · rw [uI_ne (by omega), uI_ne (by omega), uI_ne (by omega), uI_at]
    · rw [uI_ne (by omega), uI_ne (by omega), uI_at]
    · rw [uI_ne (by omega), uI_at]
    · rw [uI_ne (by omega), uI_ne (by omega), uI_ne (by omega), uI_ne (by omega), uI_ne (by omega)]
      exact lc k hk
  · have hi2 : i < G.length := by omega
    rw [gl_lt hi2]
    obtain ⟨a1, a2, a3, a4, a5⟩ := x.2 i hi2
    have := al i hi2
    refine ⟨?_, ?_, ?_, ?_, fun k hk => ?_⟩
    · rw [uI_ne (by omega), uI_ne (by omega), uI_ne (by omega), uI_ne (by omega), uI_ne (by omega)]; exact a1
    · rw [uI_ne (by omega), uI_ne (by omega), uI_ne (by omega), uI_ne (by omega), uI_ne (by omega)]; exact a2
    · rw [uI_ne (by omega), uI_ne (by omega), uI_ne (by omega), uI_ne (by omega), uI_ne (by omega)]; exact a3
    · rw [uI_ne (by omega), uI_ne (by omega), uI_ne (by omega), uI_ne (by omega), uI_ne (by omega)]; exact a4
    · rw [uI_ne (by omega), uI_ne (by omega), uI_ne (by omega), uI_ne (by omega), uI_ne (by omega)]; exact a5 k hk
theorem m_gs (ht : t < 4) (hn : n ≤ 80) {L : List Nat} {G : List gz_Gs} {kd mo rk : Nat} (hL : L.length ≤ 8) (hm : mo ≤ 8) (hG : G.length < 6) (al : ∀ i, i < G.length → (G.getD i g0).2.2.2.length ≤ 8) : ∀ (k p : Nat) (l : List Nat) (q : gz_H), MR h q t n c p → p ≤ n → n - p ≤ k → mL q L → mG q G → (∀ j, j < l.length → q.2.1 99 (8 * G.length + j) = nI (l.getD j 0)) → (∀ f ∈ l, f < L.length) → l.length ≤ mo → ∀ m, k < m → ∃ q', fX9_readsGoose_76 m 85 (nI kd) (nI mo) (nI rk) (nI l.length) (nI (hs l)) q = some (nI (if (gsN c n L.length mo k p l).1 = true then 1 else 0), q') ∧ MR h q' t n c (gsN c n L.length mo k p l).2.1 ∧ (gsN c n L.length mo k p l).2.1 ≤ n ∧ ((gsN c n L.length mo k p l).1 = true → mL q' L ∧ mG q' (G ++ [(kd, mo, rk, (gsN c n L.length mo k p l).2.2)])) := by
  have done : ∀ (p : Nat) (l : List Nat) (q : gz_H), MR h q t n c p → p ≤ n → mL q L → mG q G → (∀ j, j < l.length → q.2.1 99 (8 * G.length + j) = nI (l.getD j 0)) → l.length ≤ mo → fgN c n p = none → ∀ m, ∃ q', fX9_readsGoose_76 (m + 1) 85 (nI kd) (nI mo) (nI rk) (nI l.length) (nI (hs l)) q = some (1, q') ∧ MR h q' t n c p ∧ mL q' L ∧ mG q' (G ++ [(kd, mo, rk, l)]) := by
    intro p l q X hp xL xG lc hl e m
    have fi := m_isFig X ht hn (by omega)
    rw [e] at fi
    have H := X.2.1
    have X1 : MR h (uI q 97 (3 * G.length) (nI kd)) t n c p := X.wr (by omega)
    have X2 : MR h (uI (uI q 97 (3 * G.length) (nI kd)) 97 (3 * G.length + 1) (nI mo)) t n c p := X1.wr (by omega)
    have X3 : MR h (uI (uI (uI q 97 (3 * G.length) (nI kd)) 97 (3 * G.length + 1) (nI mo)) 97 (3 * G.length + 2) (nI rk)) t n c p := X2.wr (by omega)
    have X4 : MR h (uI (uI (uI (uI q 97 (3 * G.length) (nI kd)) 97 (3 * G.length + 1) (nI mo)) 97 (3 * G.length + 2) (nI rk)) 98 G.length (nI l.length)) t n c p := X3.wr (by omega)
    have X5 : MR h (uI (uI (uI (uI (uI q 97 (3 * G.length) (nI kd)) 97 (3 * G.length + 1) (nI mo)) 97 (3 * G.length + 2) (nI rk)) 98 G.length (nI l.length)) 85 24 (nI (G.length + 1))) t n c p := X4.wr (by omega)
    refine ⟨_, ?_, X5, ⟨?_, fun k hk => ?_⟩, mG_add hG (by omega) xG al lc⟩
    · have g3 : (3 : Int32) * nI G.length = nI (3 * G.length) := by rw [show (3 : Int32) = nI 3 from rfl, pk_mul]
      have g31 : nI (3 * G.length) + (1 : Int32) = nI (3 * G.length + 1) := nI_1 _
      have g32 : nI (3 * G.length) + (2 : Int32) = nI (3 * G.length + 2) := by rw [show (2 : Int32) = nI 2 from rfl, nI_add]
      rw [fX9_readsGoose_76, ck_t (sh_85 H), fi, b2_s, if_pos (by decide), ck_t (sh_85 H), rf_85_21 H, br_s, xG.1, g3, ck_t (in_97 H (by omega)), nI_clamp (by omega), lt_d, ck_t (sh_85 X1.2.1), rf_85_21 X1.2.1, br_s, uI_ne (by omega), xG.1, g3, g31, ck_t (in_97 X1.2.1 (by omega)), nI_clamp (by omega), lt_d, ck_t (sh_85 X2.2.1), rf_85_21 X2.2.1, br_s, uI_ne (by omega), uI_ne (by omega), xG.1, g3, g32, ck_t (in_97 X2.2.1 (by omega)), nI_clamp (by omega), lt_d, ck_t (sh_85 X3.2.1), rf_85_22 X3.2.1, br_s, uI_ne (by omega), uI_ne (by omega), uI_ne (by omega), xG.1, ck_t (in_98 X3.2.1 (by omega)), nI_clamp (by omega), lt_d, ck_t (sh_85 X4.2.1), uI_ne (by omega), uI_ne (by omega), uI_ne (by omega), uI_ne (by omega), xG.1, nI_1, lt_d]
    · rw [uI_ne (by omega), uI_ne (by omega), uI_ne (by omega), uI_ne (by omega), uI_ne (by omega)]; exact xL.1
    · rw [uI_ne (by omega), uI_ne (by omega), uI_ne (by omega), uI_ne (by omega), uI_ne (by omega)]; exact xL.2 k hk
  intro k
  induction k with
  | zero =>
    intro p l q X hp hk xL xG lc lb hl m hm'
    obtain ⟨m, rfl⟩ : ∃ j, m = j + 1 := ⟨m - 1, by omega⟩
    obtain ⟨q', e1, X1, y1, y2⟩ := done p l q X hp xL xG lc hl (if_neg (fun u => by omega)) m
    exact ⟨q', e1, X1, hp, fun _ => ⟨y1, y2⟩⟩
  | succ k ih =>
    intro p l q X hp hk xL xG lc lb hl m hm'
    obtain ⟨m, rfl⟩ : ∃ j, m = j + 1 := ⟨m - 1, by omega⟩
    cases e : fgN c n p with
    | none =>
      have eg : gsN c n L.length mo (k + 1) p l = (true, p, l) := by rw [gsN, e]
      rw [eg]
      obtain ⟨q', e1, X1, y1, y2⟩ := done p l q X hp xL xG lc hl e m
      exact ⟨q', e1, X1, hp, fun _ => ⟨y1, y2⟩⟩
    | some f =>
      obtain ⟨z, f9, ec⟩ := fg_some e
      have fi := m_isFig X ht hn (by omega)
      rw [e] at fi
      have H := X.2.1
      have h8 : hs l < 2 ^ 8 := hs_lt (fun x hx => Nat.lt_of_lt_of_le (lb x hx) hL)
      have sub : nI (48 + f) - (48 : Int32) = nI f := by rw [show (48 : Int32) = nI 48 from rfl, pk_sub (by omega), show 48 + f - 48 = f by omega]
      have eb : fX9_has (nI (hs l)) (nI f) q = some (nI (if (hs l).testBit f then 1 else 0), q) := t_has (by omega) (by omega)
      rw [fX9_readsGoose_76, ck_t (sh_85 H), fi, b2_s, if_neg (show ¬ nI (if (some f).isSome = true then 1 else 0) = 0 from (show ¬ nI 1 = (0 : Int32) by decide)), ck_t (sh_85 H), m_here X ht hn z, b2_s, ck_t (sh_85 H), xL.1, ec, sub]
      by_cases y : L.length ≤ f ∨ f ∈ l ∨ mo ≤ l.length
      · have eg : gsN c n L.length mo (k + 1) p l = (false, p, l) := by
          rw [gsN, e]; exact if_pos y
        rw [eg]
        refine ⟨q, ?_, X, hp, fun u => ff_no u⟩
        by_cases y1 : L.length ≤ f
        · rw [if_pos (nI_le y1 (by omega))]; rfl
        · rw [if_neg (nI_ge (by omega) (by omega)), eb, b2_s]
          by_cases y2 : f ∈ l
          · rw [if_pos (hs_bit.mpr y2), if_neg (by decide)]; rfl
          · have y3 : mo ≤ l.length := (y.resolve_left y1).resolve_left y2
            rw [if_neg (fun u => y2 (hs_bit.mp u)), if_pos (by decide), if_pos (congrArg nI (show l.length = mo by omega))]; rfl
      · have y1 : ¬ L.length ≤ f := fun u => y (Or.inl u)
        have y2 : ¬ f ∈ l := fun u => y (Or.inr (Or.inl u))
        have y3 : ¬ mo ≤ l.length := fun u => y (Or.inr (Or.inr u))
        have eg : gsN c n L.length mo (k + 1) p l = gsN c n L.length mo k (p + 1) (l ++ [f]) := by
          rw [gsN, e]; exact if_neg y
        rw [eg]
        have X1 : MR h (uI q 99 (8 * G.length + l.length) (nI f)) t n c p := X.wr (by omega)
        have H1 := X1.2.1
        have X2 := X1.pos (p + 1)
        have gll : (l ++ [f]).length = l.length + 1 := by rw [List.length_append]; rfl
        have o : ∀ a j, a ≠ 99 → a ≠ 85 ∨ j ≠ 17 → (uI (uI q 99 (8 * G.length + l.length) (nI f)) 85 17 (nI (p + 1))).2.1 a j = q.2.1 a j := fun a j u1 u2 => by rw [uI_ne (by omega), uI_ne (by omega)]
        have xL2 : mL (uI (uI q 99 (8 * G.length + l.length) (nI f)) 85 17 (nI (p + 1))) L := ⟨by rw [o _ _ (by omega) (by omega)]; exact xL.1, fun k hk => by rw [o _ _ (by omega) (by omega)]; exact xL.2 k hk⟩
        have xG2 : mG (uI (uI q 99 (8 * G.length + l.length) (nI f)) 85 17 (nI (p + 1))) G := ⟨by rw [o _ _ (by omega) (by omega)]; exact xG.1, fun i hi => by
          obtain ⟨a1, a2, a3, a4, a5⟩ := xG.2 i hi
          have := al i hi
          exact ⟨by rw [o _ _ (by omega) (by omega)]; exact a1, by rw [o _ _ (by omega) (by omega)]; exact a2, by rw [o _ _ (by omega) (by omega)]; exact a3, by rw [o _ _ (by omega) (by omega)]; exact a4, fun k hk => by rw [uI_ne (by omega), uI_ne (by omega)]; exact a5 k hk⟩⟩
        obtain ⟨q', e2, r2⟩ := ih (p + 1) (l ++ [f]) _ X2 (by omega) (by omega) xL2 xG2 (fun j hj => by
          rw [gll] at hj
          rw [uI_ne (by omega)]
          by_cases u : j = l.length
          · rw [u, uI_at, ld_app]
          · rw [uI_ne (by omega), ld_lt (by omega)]; exact lc j (by omega)) (fun x hx => (List.mem_append.mp hx).elim (lb x) (fun u => by rw [List.mem_singleton.mp u]; omega)) (by omega) m (by omega)
        refine ⟨q', ?_, r2⟩
        have e9 : (1 : Int32) <<< (nI f &&& 31) = nI (2 ^ f) := nI_shl (by omega)
        rw [gll, hs_snoc] at e2
        rw [if_neg (nI_ge (by omega) (by omega)), eb, b2_s, if_neg (fun u => y2 (hs_bit.mp u)), if_pos (by decide), if_neg (fun u => by have := (nI_eq (by omega) (by omega)).mp u; omega), e9, nI_or, lt_d, ck_t (sh_85 H), rf_85_23 H, br_s, xG.1, show (8 : Int32) = nI 8 from rfl, n_mul, ck_t (in_99 H (by omega)), nI_clamp (by omega), lt_d, ck_t (sh_85 H1), X1.2.2.2.1, nI_1, nI_1, lt_d]
        exact e2
theorem m_goose (X : MR h q t n c p) (ht : t < 4) (hn : n ≤ 80) (hp : p < n) {L : List Nat} {G : List gz_Gs} (hL : L.length ≤ 8) (hG : G.length < 6) (al : ∀ i, i < G.length → (G.getD i g0).2.2.2.length ≤ 8) (xL : mL q L) (xG : mG q G) : ∃ q', fX9_readsGoose 85 q = some (nI (if (goN c n L.length p).1 = true then 1 else 0), q') ∧ MR h q' t n c (goN c n L.length p).2.1 ∧ (goN c n L.length p).2.1 ≤ n ∧ ((goN c n L.length p).1 = true → mL q' L ∧ mG q' (G ++ [(goN c n L.length p).2.2])) := by
  have H := X.2.1
  unfold fX9_readsGoose fX9_readsGoose_0
  rw [ck_t (sh_85 H), m_here X ht hn hp, b2_s, m_kind, b2_s]
  cases e0 : ltN (c p) with
  | none =>
    have eg : goN c n L.length p = (false, p, g0) := by unfold goN; rw [e0]
    rw [eg, if_pos enc_n]
    exact ⟨q, rfl, X, by show p ≤ n; omega, fun z => ff_no z⟩
  | some kd =>
    have k5 := lt_5 e0
    have X1 := X.pos (p + 1)
    have H1 := X1.2.1
    rw [if_neg (enc_ne (by omega)), ck_t (sh_85 H), xG.1, if_neg (show ¬ nI G.length = (6 : Int32) from fun u => by have := (nI_eq (b := 6) (by omega) (by decide)).mp u; omega), X.2.2.2.1, nI_1, lt_d, ck_t (sh_85 H1), show (1 : Int32) = nI 1 from rfl, show (8 : Int32) = nI 8 from rfl, show (0 : Int32) = nI 0 from rfl, show (9 : Int32) = nI 9 from rfl]
    have bad : ((∀ d, fgN c n (p + 1) = some d → ¬ (1 ≤ d ∧ d ≤ 8))) → ∃ q', (gz_b2 (fX9_figure 85 (nI 1) (nI 8) (uI q 85 17 (nI (p + 1)))) fun y_11 h_10 => if y_11 = (-nI 9 : Int32) then fX9_readsGoose_61 85 (enc (some kd)) y_11 (-nI 9 : Int32) h_10 else gz_ck (gz_sh h_10 85 9 29) (gz_b2 (fX9_figure 85 (nI 0) (nI 9) h_10) fun y_15 h_14 => fX9_readsGoose_61 85 (enc (some kd)) y_11 y_15 h_14)) = some (nI 0, q') ∧ MR h q' t n c (p + 1) := by
      intro no
      refine ⟨_, ?_, X1⟩
      rw [m_fig_no X1 ht hn (by omega) (by omega) (by omega) no, b2_s, if_pos (by decide)]
      unfold fX9_readsGoose_61
      rw [if_pos (by decide)]
      rfl
    cases e1 : fgN c n (p + 1) with
    | none =>
      have eg : goN c n L.length p = (false, p + 1, g0) := by unfold goN; rw [e0]; show (match fgN c n (p + 1) with | none => _ | some mo => _) = _; rw [e1]
      rw [eg]
      obtain ⟨q', b1, b2⟩ := bad (fun d e => by rw [e1] at e; exact absurd e (by simp))
      exact ⟨q', b1, b2, by show p + 1 ≤ n; omega, fun z => ff_no z⟩
    | some mo =>
      obtain ⟨z1, m9, _⟩ := fg_some e1
      by_cases y : mo = 0 ∨ 9 ≤ mo
      · have eg : goN c n L.length p = (false, p + 1, g0) := by unfold goN; rw [e0]; show (match fgN c n (p + 1) with | none => _ | some mo => _) = _; rw [e1]; exact if_pos y
        rw [eg]
        obtain ⟨q', b1, b2⟩ := bad (fun d e => by rw [e1] at e; have := Option.some.inj e; omega)
        exact ⟨q', b1, b2, by show p + 1 ≤ n; omega, fun z => ff_no z⟩
      · have X2 : MR h (uI (uI q 85 17 (nI (p + 1))) 85 17 (nI (p + 1 + 1))) t n c (p + 2) := X1.pos (p + 2)
        have H2 := X2.2.1
        rw [m_fig_at X1 ht hn (by omega) (by omega) e1 (by omega), b2_s, if_neg (show ¬ nI mo = (-nI 9 : Int32) from n_ne9 mo (by omega)), ck_t (sh_85 H2)]
        have x2 := (xL.mp (mp_p (v := nI (p + 1)))).mp (mp_p (v := nI (p + 1 + 1)))
        have g2 := (xG.mp (mp_p (v := nI (p + 1)))).mp (mp_p (v := nI (p + 1 + 1)))
        cases e2 : fgN c n (p + 2) with
        | none =>
          have eg : goN c n L.length p = (false, p + 2, g0) := by
            unfold goN; rw [e0]; show (match fgN c n (p + 1) with | none => _ | some mo => _) = _
            rw [e1]; refine (if_neg y).trans ?_; rw [e2]
          rw [eg]
          refine ⟨_, ?_, X2, by show p + 2 ≤ n; omega, fun z => ff_no z⟩
          rw [m_fig_no X2 ht hn (by omega) (by omega) (by omega) (fun d e => by rw [e2] at e; exact absurd e (by simp)), b2_s]
          unfold fX9_readsGoose_61
          rw [if_pos rfl]
          rfl
        | some rk =>
          obtain ⟨z2, r9, _⟩ := fg_some e2
          have eg : goN c n L.length p = ((gsN c n L.length mo (n - (p + 3)) (p + 3) []).1, (gsN c n L.length mo (n - (p + 3)) (p + 3) []).2.1, (kd, mo, rk, (gsN c n L.length mo (n - (p + 3)) (p + 3) []).2.2)) := by
            unfold goN; rw [e0]; show (match fgN c n (p + 1) with | none => _ | some mo => _) = _
            rw [e1]; refine (if_neg y).trans ?_; rw [e2]
          rw [eg]
          have X3 : MR h (uI (uI (uI q 85 17 (nI (p + 1))) 85 17 (nI (p + 1 + 1))) 85 17 (nI (p + 2 + 1))) t n c (p + 3) := X2.pos (p + 3)
          rw [m_fig_at X2 ht hn (by omega) (by omega) e2 (by omega), b2_s]
          unfold fX9_readsGoose_61
          rw [if_neg (n_ne9 rk (by omega))]
          exact m_gs ht hn hL (by omega) hG al (n - (p + 3)) (p + 3) [] _ X3 (by omega) (Nat.le_refl _) (x2.mp mp_p) (g2.mp mp_p) (fun j hj => absurd hj (by simp)) (fun f hf => absurd hf (by simp)) (by simp) gz_fu (by show n - (p + 3) < 100000; omega)
theorem gs_len {F mo : Nat} : ∀ (k p : Nat) (l : List Nat), l.length ≤ mo → (gsN c n F mo k p l).2.2.length ≤ mo := by
  intro k
  induction k with
  | zero => intro p l h; exact h
  | succ k ih =>
    intro p l h
    rw [gsN]
    cases e : fgN c n p with
    | none => exact h
    | some f =>
      show (if F ≤ f ∨ f ∈ l ∨ mo ≤ l.length then (false, p, l) else gsN c n F mo k (p + 1) (l ++ [f])).2.2.length ≤ mo
      by_cases y : F ≤ f ∨ f ∈ l ∨ mo ≤ l.length
      · rw [if_pos y]; exact h
      · rw [if_neg y]
        have y3 : ¬ mo ≤ l.length := fun u => y (Or.inr (Or.inr u))
        exact ih _ _ (by rw [List.length_append]; show l.length + 1 ≤ mo; omega)
theorem go_len {F : Nat} (eb : (goN c n F p).1 = true) : (goN c n F p).2.2.2.2.2.length ≤ 8 := by
  unfold goN at eb ⊢
  cases e0 : ltN (c p) with
  | none => exact Nat.zero_le _
  | some kd =>
    show (match fgN c n (p + 1) with | none => (false, p + 1, g0) | some mo => if mo = 0 ∨ 9 ≤ mo then (false, p + 1, g0) else match fgN c n (p + 2) with | none => (false, p + 2, g0) | some rk => ((gsN c n F mo (n - (p + 3)) (p + 3) []).1, (gsN c n F mo (n - (p + 3)) (p + 3) []).2.1, (kd, mo, rk, (gsN c n F mo (n - (p + 3)) (p + 3) []).2.2))).2.2.2.2.2.length ≤ 8
    cases e1 : fgN c n (p + 1) with
    | none => exact Nat.zero_le _
    | some mo =>
      show (if mo = 0 ∨ 9 ≤ mo then (false, p + 1, g0) else match fgN c n (p + 2) with | none => (false, p + 2, g0) | some rk => ((gsN c n F mo (n - (p + 3)) (p + 3) []).1, (gsN c n F mo (n - (p + 3)) (p + 3) []).2.1, (kd, mo, rk, (gsN c n F mo (n - (p + 3)) (p + 3) []).2.2))).2.2.2.2.2.length ≤ 8
      by_cases y : mo = 0 ∨ 9 ≤ mo
      · rw [if_pos y]; exact Nat.zero_le _
      · rw [if_neg y]
        cases e2 : fgN c n (p + 2) with
        | none => exact Nat.zero_le _
        | some rk =>
          have := gs_len (c := c) (n := n) (F := F) (mo := mo) (n - (p + 3)) (p + 3) [] (Nat.zero_le _)
          show (gsN c n F mo (n - (p + 3)) (p + 3) []).2.2.length ≤ 8
          omega
theorem m_f46 (ht : t < 4) (hn : n ≤ 80) {L : List Nat} (hL : L.length ≤ 8) : ∀ (k p : Nat) (G : List gz_Gs) (q : gz_H), MR h q t n c p → p ≤ n → G.length + k = 6 → (∀ i, i < G.length → (G.getD i g0).2.2.2.length ≤ 8) → mL q L → mG q G → ∀ m, k + 2 < m → ∃ q', fX9_faultOf_46 m 85 (1 : Int32) q = some (if (flN c n L.length k p G).1 = true then -9 else nI (flN c n L.length k p G).2.1, q') ∧ MR h q' t n c (flN c n L.length k p G).2.1 ∧ ((flN c n L.length k p G).1 = true → mL q' L ∧ mG q' (flN c n L.length k p G).2.2) := by
  have e77 : ∀ (p : Nat) (G : List gz_Gs) (q : gz_H), MR h q t n c p → G.length ≤ 6 → mG q G → fX9_faultOf_77 85 (1 : Int32) q = some (if G.length = 0 then nI p else -9, q) := by
    intro p G q X hG x
    unfold fX9_faultOf_77
    rw [if_neg (by decide), ck_t (sh_85 X.2.1), x.1, X.2.2.2.1]
    by_cases y : G.length = 0
    · rw [y, if_pos (by decide), if_pos rfl]
    · rw [if_neg (n_le0 (by omega) (by omega)), if_neg y]
  have e0 : ∀ (p : Nat) (q : gz_H) (m : Nat), MR h q t n c p → fX9_faultOf_46 (m + 1) 85 (0 : Int32) q = some (nI p, q) := by
    intro p q m X
    rw [fX9_faultOf_46, if_pos rfl]
    unfold fX9_faultOf_77
    rw [if_pos rfl, ck_t (sh_85 X.2.1), X.2.2.2.1]
  intro k
  induction k with
  | zero =>
    intro p G q X hp hG al xL xG m hm
    obtain ⟨m, rfl⟩ : ∃ j, m = j + 1 + 1 := ⟨m - 2, by omega⟩
    have G6 : G.length = 6 := by omega
    have H := X.2.1
    refine ⟨q, ?_, X, fun _ => ⟨xL, xG⟩⟩
    show _ = some (if (decide (¬ p < n)) = true then -9 else nI p, q)
    rw [fX9_faultOf_46, if_neg (by decide), ck_t (sh_85 H), X.2.2.2.1, X.2.2.2.2.1]
    by_cases z : p < n
    · have er : fX9_readsGoose 85 q = some (0, q) := by
        unfold fX9_readsGoose fX9_readsGoose_0
        rw [ck_t (sh_85 H), m_here X ht hn z, b2_s, m_kind, b2_s]
        cases e0 : ltN (c p) with
        | none => rw [if_pos enc_n]
        | some kd =>
          have k5 := lt_5 e0
          rw [if_neg (enc_ne (by omega)), ck_t (sh_85 H), xG.1, G6, if_pos (by decide)]
      rw [if_neg (nI_ge z (by omega)), er, b2_s, if_pos rfl, e0 p q m X, if_neg (by simpa using z)]
    · rw [if_pos (nI_le (by omega) (by omega)), e77 p G q X (by omega) xG, if_neg (show ¬ G.length = 0 by omega), if_pos (by simpa using z)]
  | succ k ih =>
    intro p G q X hp hG al xL xG m hm
    obtain ⟨m, rfl⟩ : ∃ j, m = j + 1 + 1 := ⟨m - 2, by omega⟩
    have H := X.2.1
    rw [fX9_faultOf_46, if_neg (by decide), ck_t (sh_85 H), X.2.2.2.1, X.2.2.2.2.1]
    by_cases z : p < n
    · obtain ⟨q1, e1, X1, p1, f1⟩ := m_goose X ht hn z hL (by omega) al xL xG
      have H1 := X1.2.1
      rw [if_neg (nI_ge z (by omega)), e1, b2_s]
      cases eb : (goN c n L.length p).1 with
      | false =>
        have ef : flN c n L.length (k + 1) p G = (false, (goN c n L.length p).2.1, G) := by rw [flN, if_pos z, if_neg (by rw [eb]; decide)]
        rw [ef]
        refine ⟨q1, ?_, X1, fun u => ff_no u⟩
        rw [if_pos (show nI (if false = true then 1 else 0) = 0 from rfl)]
        exact e0 _ q1 m X1
      | true =>
        have ef : flN c n L.length (k + 1) p G = flN c n L.length k (skN c n (n - (goN c n L.length p).2.1) (goN c n L.length p).2.1) (G ++ [(goN c n L.length p).2.2]) := by rw [flN, if_pos z, if_pos eb]
        rw [ef]
        obtain ⟨f1, f2⟩ := f1 eb
        obtain ⟨q2, e2, X2, s2⟩ := m_skipB X1 ht hn p1
        have gl : (G ++ [(goN c n L.length p).2.2]).length = G.length + 1 := by rw [List.length_append]; rfl
        have l8 : (goN c n L.length p).2.2.2.2.2.length ≤ 8 := go_len eb
        obtain ⟨q3, e3, r3⟩ := ih _ (G ++ [(goN c n L.length p).2.2]) q2 X2 (sk_le _ _ p1) (by omega) (fun i hi => by
          rw [gl] at hi
          by_cases u : i = G.length
          · rw [u, gl_at]; exact l8
          · rw [gl_lt (by omega)]; exact al i (by omega)) (f1.mp s2) (f2.mp s2) (m + 1) (by omega)
        refine ⟨q3, ?_, r3⟩
        rw [if_neg (show ¬ nI (if true = true then 1 else 0) = 0 by decide), ck_t (sh_85 H1), e2, b2_s]
        exact e3
    · have ef : flN c n L.length (k + 1) p G = (decide (0 < G.length), p, G) := by rw [flN, if_neg z]
      rw [ef]
      refine ⟨q, ?_, X, fun u => ⟨xL, xG⟩⟩
      rw [if_pos (nI_le (by omega) (by omega)), e77 p G q X (by omega) xG]
      show some (if G.length = 0 then nI p else -9, q) = some (if (decide (0 < G.length)) = true then -9 else nI p, q)
      by_cases y : G.length = 0
      · rw [if_pos y, if_neg (by rw [y]; decide)]
      · rw [if_neg y, if_pos (decide_eq_true (by omega))]
theorem m_read (H : gz_La h) (ht : t < 4) (hn : n ≤ 80) (hz : h.2.1 93 t = nI n) (hc : ∀ k, k < n → h.2.1 94 (80 * t + k) = c k) : ∃ q', fX9_faultOf 85 (nI t) h = some (rdA (rdN c n), q') ∧ MF h q' ∧ gz_La q' ∧ ((rdN c n).1 = true → mL q' (rdN c n).2.2.1 ∧ mG q' (rdN c n).2.2.2) := by
  generalize hu : uI (uI (uI (uI (uI h 85 16 (nI (80 * t))) 85 17 (0 : Int32)) 85 18 (nI n)) 85 20 (0 : Int32)) 85 24 (0 : Int32) = u
  have Hu : gz_La u := by rw [← hu]; exact H.of rfl rfl
  have Xu : MR h u t n c 0 := by
    refine ⟨⟨by rw [← hu]; rfl, by rw [← hu]; rfl, fun a k z => ?_⟩, Hu, ?_, ?_, ?_, fun k hk => ?_⟩
    · unfold mfc at z
      rw [← hu, uI_ne (by omega), uI_ne (by omega), uI_ne (by omega), uI_ne (by omega), uI_ne (by omega)]
    · rw [← hu, uI_ne (by omega), uI_ne (by omega), uI_ne (by omega), uI_ne (by omega), uI_at]
    · rw [← hu, uI_ne (by omega), uI_ne (by omega), uI_ne (by omega), uI_at]; rfl
    · rw [← hu, uI_ne (by omega), uI_ne (by omega), uI_at]
    · rw [← hu, uI_ne (by omega), uI_ne (by omega), uI_ne (by omega), uI_ne (by omega), uI_ne (by omega)]; exact hc k hk
  have xL : mL u [] := ⟨by rw [← hu, uI_ne (by omega), uI_at]; rfl, fun k hk => absurd hk (by simp)⟩
  have x24 : u.2.1 85 24 = nI 0 := by rw [← hu, uI_at]; rfl
  obtain ⟨q1, e1, X1, y1, y24, p1, l1⟩ := m_vill Xu ht hn (by omega) xL x24
  rw [Nat.sub_zero] at e1 X1 y1 p1 l1
  have H1 := X1.2.1
  have start : fX9_faultOf 85 (nI t) h = if nI (if (viN c n (skN c n n 0)).1 = true then 1 else 0) = 0 then fX9_faultOf_46 gz_fu 85 (nI (if (viN c n (skN c n n 0)).1 = true then 1 else 0)) q1 else gz_ck (gz_sh q1 85 9 29) (gz_b2 (fX9_skip 85 q1) fun _ h_17 => fX9_faultOf_46 gz_fu 85 (nI (if (viN c n (skN c n n 0)).1 = true then 1 else 0)) h_17) := by
    unfold fX9_faultOf fX9_faultOf_0
    simp only [lt_d, sh_uI, inb_uI]
    rw [ck_t (sh_85 H), ck_t (sh_85 H), ck_t (sh_85 H)]
    show gz_br (h.2.2.2 85 9) _ = _
    rw [rf_85_9 H, br_s, ck_t (in_93 H ht), ck_t (sh_85 H), ck_t (sh_85 H), ck_t (sh_85 H), nI_clamp (by omega), uI_ne (by omega), uI_ne (by omega), hz, show (80 : Int32) = nI 80 from rfl, pk_mul, hu, e1, b2_s]
  rw [start]
  cases ev : (viN c n (skN c n n 0)).1 with
  | false =>
    have er : rdN c n = (false, (viN c n (skN c n n 0)).2.1, (viN c n (skN c n n 0)).2.2, []) := by unfold rdN; rw [if_neg (by rw [ev]; decide)]
    rw [er]
    refine ⟨q1, ?_, X1.1, H1, fun z => ff_no z⟩
    rw [if_pos (show nI (if false = true then 1 else 0) = 0 from rfl)]
    show fX9_faultOf_46 (99999 + 1) 85 (0 : Int32) q1 = _
    rw [fX9_faultOf_46, if_pos rfl]
    unfold fX9_faultOf_77
    rw [if_pos rfl, ck_t (sh_85 H1), X1.2.2.2.1]
    rfl
  | true =>
    obtain ⟨q3, e3, X3, s3⟩ := m_skipB X1 ht hn p1
    have g3 : mG q3 [] := ⟨by rw [s3.2.2 85 24 (by omega)]; exact y24, fun i hi => absurd hi (by simp)⟩
    obtain ⟨q4, e4, X4, f4⟩ := m_f46 ht hn l1 6 _ [] q3 X3 (sk_le _ _ p1) rfl (fun i hi => absurd hi (by simp)) (y1.mp s3) g3 gz_fu (by show 6 + 2 < 100000; omega)
    have er : rdN c n = ((flN c n (viN c n (skN c n n 0)).2.2.length 6 (skN c n (n - (viN c n (skN c n n 0)).2.1) (viN c n (skN c n n 0)).2.1) []).1, (flN c n (viN c n (skN c n n 0)).2.2.length 6 (skN c n (n - (viN c n (skN c n n 0)).2.1) (viN c n (skN c n n 0)).2.1) []).2.1, (viN c n (skN c n n 0)).2.2, (flN c n (viN c n (skN c n n 0)).2.2.length 6 (skN c n (n - (viN c n (skN c n n 0)).2.1) (viN c n (skN c n n 0)).2.1) []).2.2) := by unfold rdN; rw [if_pos ev]
    rw [er]
    refine ⟨q4, ?_, X4.1, X4.2.1, f4⟩
    rw [if_neg (show ¬ nI (if true = true then 1 else 0) = 0 by decide), ck_t (sh_85 H1), e3, b2_s]
    exact e4
end
