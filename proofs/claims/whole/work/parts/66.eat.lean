/-! PURE: eat agrees -/
theorem pc_cnt {s n : Nat} (hn : n ≤ 8) (hs : s < 2 ^ n) : pc s = cnt (fun k => s.testBit k) n := by
  rw [← cnt_ext hn]
  unfold pc cnt
  refine fs_cg fun k _ => ?_
  by_cases c : k < n
  · simp [c]
  · have : s.testBit k = false := Nat.testBit_lt_two_pow (Nat.lt_of_lt_of_le hs (Nat.pow_le_pow_right (n := 2) (by decide) (by omega)))
    simp [this]
theorem lost_pc {s n : Nat} (hn : n ≤ 8) (hs : s < 2 ^ n) : pc (sd (2 ^ n - 1) s) = n - pc s ∧ pc s ≤ n := by
  have p2 := p2_lt hn
  rw [pc_cnt hn hs, pc_cnt hn (sd_lt (by omega))]
  have a : cnt (fun k => s.testBit k) n + cnt (fun k => !s.testBit k) n = n := cnt_not (fun k => s.testBit k) n
  have b : cnt (fun k => (sd (2 ^ n - 1) s).testBit k) n = cnt (fun k => !s.testBit k) n := cnt_cg fun k hk => by
    rw [sd_bit, ones_bit hk]
    rfl
  omega
section
variable {h : gz_H} {T : gz_T} {E : gz_D}
theorem hallT (d : wd T E) : hall E T.2.1 < 2 ^ T.1 := fo_lt fun i hi => hsT d hi
theorem m_lostMany (V : MV h T E) : fX9_lostMany 85 h = some (nI (lostN T E), h) := by
  have H := V.H
  have b := V.b
  have p2 := p2_lt b.1
  have hT := hallT V.2.2.1
  have lp := lost_pc b.1 hT
  unfold fX9_lostMany fX9_lostMany_0 lostN
  rw [ck_t (sh_85 H), m_heldByAll V, b2_s, t_bits (by omega), b2_s, V.f, pk_sub lp.2, lp.1]
theorem gb_gone {i n : Nat} (hi : i < n) : gbits n (va_up E i ([], true)) = gbits n E ||| 2 ^ i := by
  apply bit_ext
  intro k
  rw [Nat.testBit_or, Bool.or_eq_true, bit_p]
  by_cases hk : k < n
  · rw [gb_bit hk, gb_bit hk]
    by_cases e : k = i
    · subst e; rw [up_at]; simp
    · rw [up_ne e]; simp [e]
  · have z : ∀ D : gz_D, ¬ (gbits n D).testBit k = true := fun D z => by
      unfold gbits at z
      have := (fo_pbit (q := fun i => (D i).2)).mp z
      omega
    constructor
    · intro q; exact absurd q (z _)
    · rintro (q | q)
      · exact absurd q (z _)
      · omega
theorem m_eat98 (V : MV h T E) {i : Nat} (hi : i < T.2.1) : ∃ h', fX9_eat_98 85 (nI i) h = some (nI (lostN T (va_up E i ([], true))), h') ∧ MV h' T (va_up E i ([], true)) ∧ fM h h' := by
  have H := V.H
  have b := V.b
  have w : wd T (va_up E i ([], true)) := wd_up V.2.2.1 (fun _ => gd_nil) (fun _ => rfl)
  have V' : MV (uI (uI h 86 (2 + i) (nI 0)) 86 1 (nI (gbits T.2.1 E ||| 2 ^ i))) T (va_up E i ([], true)) := by
    obtain ⟨H, ws, d, ⟨b1, b2, b3, b4⟩, g, x⟩ := V
    have o : ∀ a k, (a ≠ 86 ∨ (k ≠ 2 + i ∧ k ≠ 1)) → (uI (uI h 86 (2 + i) (nI 0)) 86 1 (nI (gbits T.2.1 E ||| 2 ^ i))).2.1 a k = h.2.1 a k := fun a k q => by rw [uI_ne (by omega), uI_ne (by omega)]
    refine ⟨H.of rfl rfl, ws, w, ⟨by rw [o 85 1 (by omega)]; exact b1, by rw [o 85 3 (by omega)]; exact b2, fun k hk => by rw [o 87 k (by omega)]; exact b3 k hk, fun j hj => by rw [o 88 j (by omega), o 89 j (by omega), o 90 j (by omega)]; exact b4 j hj⟩, by rw [gb_gone hi]; exact uI_at, fun j hj => ?_⟩
    by_cases e : j = i
    · subst e
      rw [up_at]
      refine ⟨?_, fun k hk => absurd hk (by simp)⟩
      rw [Nat.zero_add, uI_ne (by omega), uI_at]; rfl
    · rw [up_ne e]
      exact ⟨by rw [o 86 _ (by omega)]; exact (x j hj).1, fun k hk => by rw [o 86 _ (by omega)]; exact (x j hj).2 k hk⟩
  have H' := V'.H
  refine ⟨_, ?_, V', ⟨rfl, rfl, fun a k q _ => by rw [uI_ne (by omega), uI_ne (by omega)], fun k q => by rw [uI_ne (by omega), uI_ne (by omega)]⟩⟩
  unfold fX9_eat_98
  have eg : (uI h 86 (2 + i) (nI 0)).2.1 86 1 = nI (gbits T.2.1 E) := by rw [uI_ne (by omega)]; exact V.gb
  have H1 : gz_La (uI h 86 (2 + i) (nI 0)) := H.of rfl rfl
  rw [ck_t (sh_85 H), rf_85_0 H, br_s, show (2 : Int32) = nI 2 from rfl, nI_add, ck_t (in_86 H (by omega)), nI_clamp (by omega), lt_d, show (0 : Int32) = nI 0 from rfl, ck_t (sh_85 H1), rf_85_0 H1, br_s, show (1 : Int32) = nI 1 from rfl, ck_t (in_86 H1 (by decide)), nI_clamp (by decide), lt_d, eg, show (31 : Int32) = nI 31 from rfl, nI_shl (by omega), nI_or, ck_t (sh_85 H'), m_lostMany V', b2_s]
/-- by: none, or a goose -/
theorem m_eat64 (V : MV h T E) {i j : Nat} {y : Int32} (hi : i < T.2.1) (hj : (j = 15 ∧ y = -9) ∨ (j < T.2.1 ∧ j ≠ i ∧ y = nI j)) (aj : j ≠ 15 → (E j).2 = false) (R : TR h (E i).1) : ∃ h', fX9_eat_64 gz_fu 85 (nI i) y (nI 0) h = some (nI (lostN T (pf T E (3, i, j))), h') ∧ MV h' T (pf T E (3, i, j)) ∧ fM h h' := by
  have H := V.H
  have b := V.b
  have bi := V.bi i hi
  have e3 : pf T E (3, i, j) = if j = 15 then va_up E i ([], true) else va_up (va_up E j ((E i).1.foldl (tk (T.2.2.2.2.1 j)) (E j).1, (E j).2)) i ([], true) := rfl
  rw [e3]
  rcases hj with ⟨c, hy⟩ | ⟨hj, hij, hy⟩
  · subst hy
    rw [if_pos c]
    obtain ⟨h', e, V', f'⟩ := m_eat98 V hi
    refine ⟨h', ?_, V', f'⟩
    rw [show gz_fu = 99999 + 1 from rfl, fX9_eat_64, ck_t (sh_85 H), e, if_pos rfl]
    by_cases q : h.2.1 85 25 ≤ nI 0
    · rw [if_pos q]
    · rw [if_neg q]
  · subst hy
    have c : ¬ j = 15 := by omega
    rw [if_neg c]
    have hfu : (E i).1.length < 0 + gz_fu := by show (E i).1.length < 0 + 100000; omega
    generalize gz_fu = fu at hfu ⊢
    refine lpr (fun m k (s : gz_H) => fX9_eat_64 m 85 (nI i) (nI j) (nI k) s) (fun k s => MV s T (va_up E j (((E i).1.take k).foldl (tk (T.2.2.2.2.1 j)) (E j).1, (E j).2)) ∧ fM h s ∧ TR s (E i).1) (E i).1.length (fun r => ∃ h', r = some (nI (lostN T (va_up (va_up E j ((E i).1.foldl (tk (T.2.2.2.2.1 j)) (E j).1, (E j).2)) i ([], true))), h') ∧ MV h' T (va_up (va_up E j ((E i).1.foldl (tk (T.2.2.2.2.1 j)) (E j).1, (E j).2)) i ([], true)) ∧ fM h h') ?_ ?_ fu 0 h (by omega) hfu ⟨?_, fM.rf, R⟩
    · intro m s ⟨V1, f1, R1⟩
      rw [List.take_length] at V1
      have H1 := V1.H
      obtain ⟨h', e, V', f'⟩ := m_eat98 V1 hi
      refine ⟨h', ?_, V', f1.tr f'⟩
      rw [fX9_eat_64, ck_t (sh_85 H1), R1.1, if_pos (nI_le (Nat.le_refl _) (by omega)), e]
    · intro m k s hk ⟨V1, f1, R1⟩
      have H1 := V1.H
      have hf := (V.2.2.1.gd hi).2.2 _ (ld_mem hk)
      obtain ⟨h', e, V', f'⟩ := m_takeE V1 hj hf (by rw [up_at]; exact aj c)
      rw [up_at, up_up] at V'
      rw [up_at] at e
      refine ⟨h', ⟨?_, f1.tr f'.fM, by rw [TR, f'.2.2 85 25 (by omega)]; exact ⟨R1.1, fun q hq => by rw [f'.2.2 100 q (by omega)]; exact R1.2 q hq⟩⟩, ?_⟩
      · rw [take_succ_getD hk, List.foldl_append]
        exact V'
      · rw [fX9_eat_64, ck_t (sh_85 H1), R1.1, if_neg (nI_ge hk (by omega)), if_neg (show ¬ nI j = (-9 : Int32) from fun z => (nI_n9 (k := j) (by omega)).mp z), rf_85_26 H1, br_s, ck_t (in_100 H1 (by omega)), nI_clamp (by omega), R1.2 k hk, e, b2_s, nI_1]
    · rw [List.take_zero]
      show MV h T (va_up E j (E j))
      rw [up_self]
      exact V
theorem m_eat42 {D : gz_D} {ds : List gz_De} (hl : ds.length ≤ 40) {i j k : Nat} {y : Int32} (hi : i < T.2.1) (hk : k < T.2.1) (V : MV h T (rn T D ds)) (e0 : h.2.1 86 0 = nI ds.length) : fX9_eat_42 85 (nI i) y 85 (nI i) (nI k) h = if (if (rn T D ds i).2 = true ∨ (rn T D ds k).2 = true then (-4 : Int32) else if ds.length = 40 then -2 else 0) = 0 then gz_b2 (fX9_keepPast 85 h) (fun _ h_5 => gz_ck (gz_sh h_5 85 9 29) (gz_b2 (fX9_layHeld 85 (nI i) h_5) fun _ h_8 => fX9_eat_64 gz_fu 85 (nI i) y (0 : Int32) h_8)) else some (if (rn T D ds i).2 = true ∨ (rn T D ds k).2 = true then (-4 : Int32) else if ds.length = 40 then -2 else 0, h) := by
  have H := V.H
  unfold fX9_eat_42
  rw [ck_t (sh_85 H), m_no V e0 hl hi hk, b2_s, ck_t (sh_85 H)]
theorem m_eatOk {D : gz_D} {ds : List gz_De} (hl : ds.length < 40) {i j k : Nat} {y : Int32} (hi : i < T.2.1) (hj : (j = 15 ∧ y = -9) ∨ (j < T.2.1 ∧ j ≠ i ∧ y = nI j)) (hk : k < T.2.1) (gi : (rn T D ds i).2 = false) (gk : (rn T D ds k).2 = false) (aj : j ≠ 15 → (rn T D ds j).2 = false) {h1 hk1 : gz_H} (W1 : MV h1 T (rn T D ds)) (e0 : h1.2.1 86 0 = nI ds.length) (ek : fX9_keepPast 85 h1 = some ((), hk1)) (Wk : MV hk1 T (rn T D ds)) : ∃ h2, fX9_eat_42 85 (nI i) y 85 (nI i) (nI k) h1 = some (pfA T (rn T D ds) (3, i, j), h2) ∧ fM hk1 h2 ∧ MV h2 T (pf T (rn T D ds) (3, i, j)) := by
  have Hk := Wk.H
  obtain ⟨h3, e3, s3, R⟩ := m_layHeld Wk hi
  obtain ⟨h2, e2, W2, f2⟩ := m_eat64 (Wk.sc s3) hi hj aj R
  refine ⟨h2, ?_, s3.fM.tr f2, W2⟩
  have e2' : fX9_eat_64 gz_fu 85 (nI i) y (0 : Int32) h3 = some (nI (lostN T (pf T (rn T D ds) (3, i, j))), h2) := e2
  rw [m_eat42 (j := j) (by omega) hi hk W1 e0, if_neg (show ¬ ((rn T D ds i).2 = true ∨ (rn T D ds k).2 = true) from fun z => by rw [gi, gk] at z; simp at z), if_neg (show ¬ ds.length = 40 by omega), if_pos rfl, ek, b2_s, ck_t (sh_85 Hk), e3, b2_s, e2']
  rfl
theorem op_eat (I : gz_Iv h) (x1 x2 : Int32) : gz_ag (fX8_eat 0 x1 x2) (fX9_eat 85 x1 x2) h gz_Iv := by
  obtain ⟨T, D, ds, ks, sa, F⟩ := I.2
  have V := F.xv I.1.1
  have W := F.mv I.1.1
  have H := V.H
  have b := V.b
  have hl := F.1.2.2.2.1.1
  have L := F.2.2.1.2.2.1
  have m0 := F.2.2.2.2.1.1
  rcases p_cases x1 T.2.1 (by omega) with hx | ⟨i, hi, rfl⟩
  · refine ag_no I (y := -1) ?_ ?_
    · unfold fX8_eat fX8_eat_0
      rw [ck_t (sh_0 H), rf_0_9 H, br_s, ck_t (sh_28 H), x_goose_out V hx, b2_s, if_pos (by decide)]
    · unfold fX9_eat fX9_eat_0
      rw [ck_t (sh_85 H), m_goose_out W hx, b2_s, if_pos (by decide)]
  · have ni9 : ¬ nI i = (-9 : Int32) := fun z => (nI_n9 (k := i) (by omega)).mp z
    by_cases c9 : x2 = -9
    · subst c9
      have X0 : ∀ y h1, fX8_doDeed 0 (3 : Int32) (nI i) (15 : Int32) h = some (y, h1) → fX8_eat 0 (nI i) (-9) h = some (y, h1) := by
        intro y h1 e
        unfold fX8_eat fX8_eat_0
        rw [ck_t (sh_0 H), rf_0_9 H, br_s, ck_t (sh_28 H), x_goose_in V hi, b2_s, if_neg (by decide), if_neg (fun z => ni9 z.symm), if_pos rfl, ck_t (sh_0 H), e, b2_s]
      have M0 : ∀ h1, MV h1 T (rn T D ds) → fX9_eat 85 (nI i) (-9) h1 = fX9_eat_42 85 (nI i) (-9) 85 (nI i) (nI i) h1 := by
        intro h1 W1
        unfold fX9_eat fX9_eat_0 fX9_eat_29
        rw [ck_t (sh_85 W1.H), m_goose_in W1 hi, b2_s, if_neg (by decide), if_pos rfl, if_pos rfl]
      by_cases g : (rn T D ds i).2 = true
      · refine ag_no I (y := -4) (X0 _ _ (x_doGone V hi g _ _)) ?_
        rw [M0 h W, m_eat42 (j := 15) hl hi hi W m0, if_pos (Or.inl g), if_neg (by decide)]
      · have g2 : (rn T D ds i).2 = false := by simpa using g
        have g3 : ¬ ((rn T D ds i).2 = true ∨ (rn T D ds i).2 = true) := fun z => z.elim g g
        by_cases c : ds.length = 40
        · refine ag_no I (y := -2) (X0 _ _ (x_doFull V L c hi g2 _ _)) ?_
          rw [M0 h W, m_eat42 (j := 15) hl hi hi W m0, if_neg g3, if_pos c, if_neg (by decide)]
        · refine deed_end I F (d := (3, i, 15)) (vd3 hi (Or.inl rfl)) (lv3 g2 (fun z => absurd rfl z)) (by omega) X0 ?_
          intro h1 hk W1 e0 ek Wk
          rw [M0 h1 W1]
          exact m_eatOk (by omega) hi (Or.inl ⟨rfl, rfl⟩) hi g2 g2 (fun z => absurd rfl z) W1 e0 ek Wk
    · rcases p_cases x2 T.2.1 (by omega) with hx | ⟨j, hj, rfl⟩
      · have nx : ¬ x2 = nI i := fun z => by
          subst z
          rcases hx with q | q
          · exact nI_pos (by omega) q
          · exact nI_ge hi (by omega) q
        refine ag_no I (y := -1) ?_ ?_
        · unfold fX8_eat fX8_eat_0
          rw [ck_t (sh_0 H), rf_0_9 H, br_s, ck_t (sh_28 H), x_goose_in V hi, b2_s, if_neg (by decide), if_neg nx, if_neg c9, ck_t (sh_0 H), rf_0_9 H, br_s, ck_t (sh_28 H), x_goose_out V hx, b2_s, if_pos (by decide)]
        · unfold fX9_eat fX9_eat_0
          rw [ck_t (sh_85 H), m_goose_in W hi, b2_s, if_neg (by decide), if_neg c9, ck_t (sh_85 H), m_goose_out W hx, b2_s, if_pos (by decide)]
      · by_cases hij : j = i
        · subst hij
          refine ag_no I (y := -1) ?_ ?_
          · unfold fX8_eat fX8_eat_0
            rw [ck_t (sh_0 H), rf_0_9 H, br_s, ck_t (sh_28 H), x_goose_in V hi, b2_s, if_neg (by decide), if_pos rfl]
          · unfold fX9_eat fX9_eat_0
            rw [ck_t (sh_85 H), m_goose_in W hi, b2_s, if_neg (by decide), if_neg c9, ck_t (sh_85 H), m_goose_in W hi, b2_s, if_neg (by decide), if_pos rfl]
        · have nij : ¬ nI j = nI i := fun z => hij ((nI_eq (by omega) (by omega)).mp z)
          have X0 : ∀ r, (if h.2.1 (31 + 2 * j) 5 = 0 then gz_b2 (fX8_doDeed 0 (3 : Int32) (nI i) (nI j) h) (fun y_23 h_22 => some (y_23, h_22)) else some ((-4 : Int32), h)) = r → fX8_eat 0 (nI i) (nI j) h = r := by
            intro r e
            unfold fX8_eat fX8_eat_0
            rw [ck_t (sh_0 H), rf_0_9 H, br_s, ck_t (sh_28 H), x_goose_in V hi, b2_s, if_neg (by decide), if_neg nij, if_neg c9, ck_t (sh_0 H), rf_0_9 H, br_s, ck_t (sh_28 H), x_goose_in V hj, b2_s, if_neg (by decide), ck_t (sh_0 H), rf_0_9 H, br_s, ck_t (sh_28 H), rf_28_1 H, br_s, ck_t (in_30 H (by omega)), nI_clamp (by omega), rf_30 H (by omega), br_s, ck_t (sgk_31 H (by omega))]
            exact e
          have eg := V.gn j hj
          have M0 : ∀ h1, MV h1 T (rn T D ds) → fX9_eat 85 (nI i) (nI j) h1 = fX9_eat_42 85 (nI i) (nI j) 85 (nI i) (nI j) h1 := by
            intro h1 W1
            unfold fX9_eat fX9_eat_0 fX9_eat_29
            rw [ck_t (sh_85 W1.H), m_goose_in W1 hi, b2_s, if_neg (by decide), if_neg c9, ck_t (sh_85 W1.H), m_goose_in W1 hj, b2_s, if_neg (by decide), if_neg nij, if_neg c9]
          by_cases gj : (rn T D ds j).2 = true
          · refine ag_no I (y := -4) (X0 _ ?_) ?_
            · rw [eg, if_pos gj, if_neg (by decide)]
            · rw [M0 h W, m_eat42 (j := j) hl hi hj W m0, if_pos (Or.inr gj), if_neg (by decide)]
          · have gj2 : (rn T D ds j).2 = false := by simpa using gj
            rw [if_neg gj] at eg
            by_cases g : (rn T D ds i).2 = true
            · refine ag_no I (y := -4) (X0 _ ?_) ?_
              · rw [eg, if_pos (by decide), x_doGone V hi g, b2_s]
              · rw [M0 h W, m_eat42 (j := j) hl hi hj W m0, if_pos (Or.inl g), if_neg (by decide)]
            · have g2 : (rn T D ds i).2 = false := by simpa using g
              have g3 : ¬ ((rn T D ds i).2 = true ∨ (rn T D ds j).2 = true) := fun z => z.elim g gj
              by_cases c : ds.length = 40
              · refine ag_no I (y := -2) (X0 _ ?_) ?_
                · rw [eg, if_pos (by decide), x_doFull V L c hi g2, b2_s]
                · rw [M0 h W, m_eat42 (j := j) hl hi hj W m0, if_neg g3, if_pos c, if_neg (by decide)]
              · refine deed_end I F (d := (3, i, j)) (vd3 hi (Or.inr ⟨hj, hij⟩)) (lv3 g2 (fun _ => gj2)) (by omega) (fun y h1 e => X0 _ ?_) ?_
                · have e' : fX8_doDeed 0 (3 : Int32) (nI i) (nI j) h = some (y, h1) := e
                  rw [eg, if_pos (by decide), e', b2_s]
                · intro h1 hk W1 e0 ek Wk
                  rw [M0 h1 W1]
                  exact m_eatOk (by omega) hi (Or.inr ⟨hj, hij, rfl⟩) hj g2 gj2 (fun _ => gj2) W1 e0 ek Wk
end
