section
variable {h : gz_H} {T : gz_T} {E : gz_D}
def fM (h h' : gz_H) : Prop := h'.1 = h.1 ∧ h'.2.2 = h.2.2 ∧ (∀ a k, a ≠ 86 → ¬ scr a k → h'.2.1 a k = h.2.1 a k) ∧ ∀ k, (56 ≤ k ∨ k = 0) → h'.2.1 86 k = h.2.1 86 k
theorem fM.rf : fM h h := ⟨rfl, rfl, fun _ _ _ _ => rfl, fun _ _ => rfl⟩
theorem fM.tr {h h1 h2 : gz_H} (a : fM h h1) (b : fM h1 h2) : fM h h2 := ⟨b.1.trans a.1, b.2.1.trans a.2.1, fun x k e f => (b.2.2.1 x k e f).trans (a.2.2.1 x k e f), fun k e => (b.2.2.2 k e).trans (a.2.2.2 k e)⟩
theorem fm.fM {h h' : gz_H} (f : fm h h') : fM h h' := ⟨f.1, f.2.1, fun a k e _ => f.2.2 a k (by omega), fun k e => f.2.2 86 k (by omega)⟩
theorem sc.fM {h h' : gz_H} (f : sc h h') : fM h h' := ⟨f.1, f.2.1, fun a k _ e => f.2.2 a k e, fun k e => f.2.2 86 k (by unfold scr; omega)⟩
theorem mv_fA {h1 : gz_H} (V : MV h T E) (f : fA h h1) : MV h1 T E := by
  obtain ⟨H, w, d, ⟨b1, b2, b3, b4⟩, x⟩ := V
  have e := f.2.2
  exact ⟨H.of f.1 (congrArg Prod.snd f.2.1), w, d, ⟨by rw [e 85 1 (by omega)]; exact b1, by rw [e 85 3 (by omega)]; exact b2, fun k hk => by rw [e 87 k (by omega)]; exact b3 k hk, fun i hi => by rw [e 88 i (by omega), e 89 i (by omega), e 90 i (by omega)]; exact b4 i hi⟩, x.cg (fun k => e 86 k (by omega))⟩
theorem m_past {D : gz_D} {ds : List gz_De} (V : MV h T (rn T D ds)) (m : mb h 0 T D ds) (hl : ds.length < 40) : ∃ hk, fX9_keepPast 85 h = some ((), hk) ∧ MV hk T (rn T D ds) ∧ hk.2.1 86 0 = nI (ds.length + 1) ∧ ∀ h2 d, gl T D (ds ++ [d]) → fM hk h2 → MV h2 T (pf T (rn T D ds) d) → fB h h2 ∧ mb h2 0 T D (ds ++ [d]) := by
  obtain ⟨hk, e, f1, f2, f3, f4, f5⟩ := m_keepPast V.H m.1 hl
  obtain ⟨H, w, d, ⟨b1, b2, b3, b4⟩, x⟩ := V
  refine ⟨hk, e, ⟨H.of f1 (congrArg Prod.snd f2), w, d, ⟨by rw [f5 85 1 (by omega)]; exact b1, by rw [f5 85 3 (by omega)]; exact b2, fun k hk => by rw [f5 87 k (by omega)]; exact b3 k hk, fun i hi => by rw [f5 88 i (by omega), f5 89 i (by omega), f5 90 i (by omega)]; exact b4 i hi⟩, mv_mov w.2.1 (fun i hi => Nat.le_trans (d i hi).1 (w.bi i hi).2.2.1) x (fun k hk => f5 86 _ (by omega))⟩, f3, fun h2 d2 g fm2 V2 => ⟨⟨fm2.1.trans f1, fm2.2.1.trans f2, fun a k q1 q2 => by rw [fm2.2.2.1 a k q1 q2, f5 a k (by omega)], fun k hk => by rw [fm2.2.2.2 k (by omega), f5 86 k (by omega)]⟩, mb_add w g m f3 f4 (fun k q => f5 86 k (by omega)) fm2.2.2.2 V2.2.2.2.2⟩⟩
theorem deed_end {D : gz_D} {ds : List gz_De} {ks : Nat → Option (List gz_De)} {sa : Nat} (I : gz_Iv h) (F : gz_Fv h T D ds ks sa) {d : gz_De} (v : vd T d) (l : lv (rn T D ds) d) (hl : ds.length < 40) {X M : gz_H → Option (Int32 × gz_H)} (hx : ∀ y h1, fX8_doDeed 0 (nI d.1) (nI d.2.1) (nI d.2.2) h = some (y, h1) → X h = some (y, h1)) (hm : ∀ h1 hk, MV h1 T (rn T D ds) → h1.2.1 86 0 = nI ds.length → fX9_keepPast 85 h1 = some ((), hk) → MV hk T (rn T D ds) → ∃ h2, M h1 = some (pfA T (rn T D ds) d, h2) ∧ fM hk h2 ∧ MV h2 T (pf T (rn T D ds) d)) : gz_ag X M h gz_Iv := by
  have V := F.xv I.1.1
  have W := F.mv I.1.1
  obtain ⟨h1, e1, fa, V1, L1⟩ := x_doDeed V F.2.2.1.2.2.1 hl v l
  have W1 := mv_fA W fa
  have m1 : mb h1 0 T D ds := F.2.2.2.2.1.cg (fun k => fa.2.2 86 k (by omega))
  obtain ⟨hk, e2, W2, _, fin⟩ := m_past W1 m1 hl
  obtain ⟨h2, e3, f3, W3⟩ := hm h1 hk W1 m1.1 e2 W2
  have g := gl_add F.1.1 F.1.2.2.2.1 hl v l
  obtain ⟨fb, m2⟩ := fin h2 d g f3 W3
  exact ⟨_, h1, h2, hx _ _ e1, fa.1.trans I.1.1.1, e3, asm I.1 F fa fb g V1.2.2.2 L1 m2⟩
/-- what both say where nothing is done -/
theorem ag_no (I : gz_Iv h) {y : Int32} {X M : gz_H → Option (Int32 × gz_H)} (hx : X h = some (y, h)) (hm : M h = some (y, h)) : gz_ag X M h gz_Iv := ⟨y, h, h, hx, I.1.1.1, hm, I⟩
theorem vd0 {i f : Nat} (hi : i < T.2.1) (hf : f < T.1) : vd T (0, i, f) := ⟨Nat.zero_le 3, hi, fun _ => hf, fun (z : (0 : Nat) = 1) => absurd z (by decide), fun (z : (0 : Nat) = 2) => absurd z (by decide), fun (z : (0 : Nat) = 3) => absurd z (by decide)⟩
theorem vd1 {i : Nat} (hi : i < T.2.1) : vd T (1, i, 0) := ⟨(by decide : 1 ≤ 3), hi, fun (z : (1 : Nat) = 0) => absurd z (by decide), fun _ => rfl, fun (z : (1 : Nat) = 2) => absurd z (by decide), fun (z : (1 : Nat) = 3) => absurd z (by decide)⟩
theorem vd2 {i j : Nat} (hi : i < T.2.1) (hj : j < T.2.1) (hij : j ≠ i) : vd T (2, i, j) := ⟨(by decide : 2 ≤ 3), hi, fun (z : (2 : Nat) = 0) => absurd z (by decide), fun (z : (2 : Nat) = 1) => absurd z (by decide), fun _ => ⟨hj, hij⟩, fun (z : (2 : Nat) = 3) => absurd z (by decide)⟩
theorem vd3 {i j : Nat} (hi : i < T.2.1) (hj : j = 15 ∨ (j < T.2.1 ∧ j ≠ i)) : vd T (3, i, j) := ⟨(by decide : 3 ≤ 3), hi, fun (z : (3 : Nat) = 0) => absurd z (by decide), fun (z : (3 : Nat) = 1) => absurd z (by decide), fun (z : (3 : Nat) = 2) => absurd z (by decide), fun _ => hj⟩
theorem lv0 {i f : Nat} (g : (E i).2 = false) : lv E (0, i, f) := ⟨g, fun (z : (0 : Nat) = 2) => absurd z (by decide), fun (z : (0 : Nat) = 3) => absurd z (by decide)⟩
theorem lv1 {i f : Nat} (g : (E i).2 = false) : lv E (1, i, f) := ⟨g, fun (z : (1 : Nat) = 2) => absurd z (by decide), fun (z : (1 : Nat) = 3) => absurd z (by decide)⟩
theorem lv2 {i j : Nat} (g : (E i).2 = false) (g2 : (E j).2 = false) : lv E (2, i, j) := ⟨g, fun _ => g2, fun (z : (2 : Nat) = 3) => absurd z (by decide)⟩
theorem lv3 {i j : Nat} (g : (E i).2 = false) (g2 : j ≠ 15 → (E j).2 = false) : lv E (3, i, j) := ⟨g, fun (z : (3 : Nat) = 2) => absurd z (by decide), fun _ => g2⟩
theorem op_give (I : gz_Iv h) (x1 x2 : Int32) : gz_ag (fX8_give 0 x1 x2) (fX9_give 85 x1 x2) h gz_Iv := by
  obtain ⟨T, D, ds, ks, sa, F⟩ := I.2
  have V := F.xv I.1.1
  have W := F.mv I.1.1
  have H := V.H
  have b := V.b
  have hl := F.1.2.2.2.1.1
  have L := F.2.2.1.2.2.1
  have m0 := F.2.2.2.2.1.1
  rcases p_cases x1 T.2.1 (by omega) with hx | ⟨i, hi, rfl⟩
  · refine ag_no I (y := -1) ?_ ?_
    · unfold fX8_give fX8_give_0
      rw [ck_t (sh_0 H), rf_0_9 H, br_s, ck_t (sh_28 H), x_goose_out V hx, b2_s, if_pos (by decide)]
    · unfold fX9_give fX9_give_0
      rw [ck_t (sh_85 H), m_goose_out W hx, b2_s, if_pos (by decide)]
  · rcases p_cases x2 T.1 (by omega) with hx | ⟨f, hf, rfl⟩
    · refine ag_no I (y := -1) ?_ ?_
      · unfold fX8_give fX8_give_0
        rw [ck_t (sh_0 H), rf_0_9 H, br_s, ck_t (sh_28 H), x_goose_in V hi, b2_s, if_neg (by decide), ck_t (sh_0 H), rf_0_9 H, br_s, ck_t (sh_28 H), x_fact_out V hx, b2_s, if_pos (by decide)]
      · unfold fX9_give fX9_give_0
        rw [ck_t (sh_85 H), m_goose_in W hi, b2_s, if_neg (by decide), ck_t (sh_85 H), m_fact_out W hx, b2_s, if_pos (by decide)]
    · have X0 : ∀ y h1, fX8_doDeed 0 (0 : Int32) (nI i) (nI f) h = some (y, h1) → fX8_give 0 (nI i) (nI f) h = some (y, h1) := by
        intro y h1 e
        unfold fX8_give fX8_give_0
        rw [ck_t (sh_0 H), rf_0_9 H, br_s, ck_t (sh_28 H), x_goose_in V hi, b2_s, if_neg (by decide), ck_t (sh_0 H), rf_0_9 H, br_s, ck_t (sh_28 H), x_fact_in V hf, b2_s, if_neg (by decide), ck_t (sh_0 H), e, b2_s]
      have M0 : ∀ h1, MV h1 T (rn T D ds) → h1.2.1 86 0 = nI ds.length → fX9_give 85 (nI i) (nI f) h1 = if (if (rn T D ds i).2 = true ∨ (rn T D ds i).2 = true then (-4 : Int32) else if ds.length = 40 then -2 else 0) = 0 then gz_b2 (fX9_keepPast 85 h1) (fun _ h_13 => gz_ck (gz_sh h_13 85 9 29) (gz_b2 (fX9_doGive 85 (nI i) (nI f) h_13) fun y_17 h_16 => some (y_17, h_16))) else some (if (rn T D ds i).2 = true ∨ (rn T D ds i).2 = true then (-4 : Int32) else if ds.length = 40 then -2 else 0, h1) := by
        intro h1 W1 e0
        have H1 := W1.H
        unfold fX9_give fX9_give_0
        rw [ck_t (sh_85 H1), m_goose_in W1 hi, b2_s, if_neg (by decide), ck_t (sh_85 H1), m_fact_in W1 hf, b2_s, if_neg (by decide), ck_t (sh_85 H1), m_no W1 e0 hl hi hi, b2_s, ck_t (sh_85 H1)]
      by_cases g : (rn T D ds i).2 = true
      · refine ag_no I (y := -4) (X0 _ _ (x_doGone V hi g _ _)) ?_
        rw [M0 h W m0, if_pos (Or.inl g), if_neg (by decide)]
      · have g2 : (rn T D ds i).2 = false := by simpa using g
        have g3 : ¬ ((rn T D ds i).2 = true ∨ (rn T D ds i).2 = true) := fun z => z.elim g g
        by_cases c : ds.length = 40
        · refine ag_no I (y := -2) (X0 _ _ (x_doFull V L c hi g2 _ _)) ?_
          rw [M0 h W m0, if_neg g3, if_pos c, if_neg (by decide)]
        · refine deed_end I F (d := (0, i, f)) (vd0 hi hf) (lv0 g2) (by omega) X0 ?_
          intro h1 hk W1 e0 ek Wk
          obtain ⟨h2, e2, W2, f2⟩ := m_takeE Wk hi hf g2
          have Hk := Wk.H
          refine ⟨h2, ?_, f2.fM, W2⟩
          rw [M0 h1 W1 e0, if_neg g3, if_neg c, if_pos rfl, ek, b2_s, ck_t (sh_85 Hk), e2, b2_s]
          rfl
theorem op_fright (I : gz_Iv h) (x1 : Int32) : gz_ag (fX8_fright 0 x1) (fX9_fright 85 x1) h gz_Iv := by
  obtain ⟨T, D, ds, ks, sa, F⟩ := I.2
  have V := F.xv I.1.1
  have W := F.mv I.1.1
  have H := V.H
  have b := V.b
  have hl := F.1.2.2.2.1.1
  have L := F.2.2.1.2.2.1
  have m0 := F.2.2.2.2.1.1
  rcases p_cases x1 T.2.1 (by omega) with hx | ⟨i, hi, rfl⟩
  · refine ag_no I (y := -1) ?_ ?_
    · unfold fX8_fright fX8_fright_0
      rw [ck_t (sh_0 H), rf_0_9 H, br_s, ck_t (sh_28 H), x_goose_out V hx, b2_s, if_pos (by decide)]
    · unfold fX9_fright fX9_fright_0
      rw [ck_t (sh_85 H), m_goose_out W hx, b2_s, if_pos (by decide)]
  · have X0 : ∀ y h1, fX8_doDeed 0 (1 : Int32) (nI i) (0 : Int32) h = some (y, h1) → fX8_fright 0 (nI i) h = some (y, h1) := by
      intro y h1 e
      unfold fX8_fright fX8_fright_0
      rw [ck_t (sh_0 H), rf_0_9 H, br_s, ck_t (sh_28 H), x_goose_in V hi, b2_s, if_neg (by decide), ck_t (sh_0 H), e, b2_s]
    have M0 : ∀ h1, MV h1 T (rn T D ds) → h1.2.1 86 0 = nI ds.length → fX9_fright 85 (nI i) h1 = if (if (rn T D ds i).2 = true ∨ (rn T D ds i).2 = true then (-4 : Int32) else if ds.length = 40 then -2 else 0) = 0 then gz_b2 (fX9_keepPast 85 h1) (fun _ h_13 => gz_ck (gz_sh h_13 85 9 29) (gz_b2 (fX9_doFright 85 (nI i) h_13) fun y_17 h_16 => some (y_17, h_16))) else some (if (rn T D ds i).2 = true ∨ (rn T D ds i).2 = true then (-4 : Int32) else if ds.length = 40 then -2 else 0, h1) := by
      intro h1 W1 e0
      have H1 := W1.H
      unfold fX9_fright fX9_fright_0
      rw [ck_t (sh_85 H1), m_goose_in W1 hi, b2_s, if_neg (by decide), ck_t (sh_85 H1), m_no W1 e0 hl hi hi, b2_s, ck_t (sh_85 H1)]
    by_cases g : (rn T D ds i).2 = true
    · refine ag_no I (y := -4) (X0 _ _ (x_doGone V hi g _ _)) ?_
      rw [M0 h W m0, if_pos (Or.inl g), if_neg (by decide)]
    · have g2 : (rn T D ds i).2 = false := by simpa using g
      have g3 : ¬ ((rn T D ds i).2 = true ∨ (rn T D ds i).2 = true) := fun z => z.elim g g
      by_cases c : ds.length = 40
      · refine ag_no I (y := -2) (X0 _ _ (x_doFull V L c hi g2 _ _)) ?_
        rw [M0 h W m0, if_neg g3, if_pos c, if_neg (by decide)]
      · refine deed_end I F (d := (1, i, 0)) (vd1 hi) (lv1 g2) (by omega) X0 ?_
        intro h1 hk W1 e0 ek Wk
        obtain ⟨h2, e2, W2, f2⟩ := m_fright Wk hi g2
        have Hk := Wk.H
        refine ⟨h2, ?_, f2.fM, W2⟩
        rw [M0 h1 W1 e0, if_neg g3, if_neg c, if_pos rfl, ek, b2_s, ck_t (sh_85 Hk), e2, b2_s]
        rfl
/-! mixing -/
theorem m_mix93 (V : MV h T E) {i j g t w : Nat} (hi : i < T.2.1) (hj : j < T.2.1) (hw : (w = 0 ∧ g = j ∧ t = i) ∨ (w = 1 ∧ g = i ∧ t = j)) (al : (E t).2 = false) : ∃ h', fX9_mix_93 85 (nI i) (nI j) (nI w) 85 (nI g) h = some (nw (E g).1, h') ∧ MV h' T (mixD T E g t) ∧ fm h h' := by
  have H := V.H
  have b := V.b
  have hg : g < T.2.1 := by rcases hw with ⟨_, q, _⟩ | ⟨_, q, _⟩ <;> rw [q] <;> assumption
  have ht : t < T.2.1 := by rcases hw with ⟨_, _, q⟩ | ⟨_, _, q⟩ <;> rw [q] <;> assumption
  have et : fX9_toldOf 85 (nI g) (4 : Int32) h = some (nw (E g).1, h) := m_toldOf V hg (w := 4) (by decide)
  unfold fX9_mix_93 mixD
  rw [ck_t (sh_85 H), et, b2_s]
  cases e : (E g).1.getLast? with
  | none =>
    rw [nw_none e, if_pos rfl]
    exact ⟨h, rfl, V, fm.rf⟩
  | some f =>
    have hf := (V.2.2.1.gd hg).2.2 f (List.mem_of_getLast? e)
    obtain ⟨h', e1, V', f'⟩ := m_takeE V ht hf al
    refine ⟨h', ?_, V', f'⟩
    rw [nw_last e, if_neg (show ¬ nI f = (-9 : Int32) from fun z => (nI_n9 (k := f) (by omega)).mp z)]
    unfold fX9_mix_117
    rcases hw with ⟨q1, q2, q3⟩ | ⟨q1, q2, q3⟩
    · rw [q1, if_pos (by decide), ck_t (sh_85 H), ← q3, e1, b2_s]
    · rw [q1, if_neg (by decide), ck_t (sh_85 H), ← q3, e1, b2_s]
theorem op_mix (I : gz_Iv h) (x1 x2 : Int32) : gz_ag (fX8_mix 0 x1 x2) (fX9_mix 85 x1 x2) h gz_Iv := by
  obtain ⟨T, D, ds, ks, sa, F⟩ := I.2
  have V := F.xv I.1.1
  have W := F.mv I.1.1
  have H := V.H
  have b := V.b
  have hl := F.1.2.2.2.1.1
  have L := F.2.2.1.2.2.1
  have m0 := F.2.2.2.2.1.1
  rcases p_cases x1 T.2.1 (by omega) with hx | ⟨i, hi, rfl⟩
  · refine ag_no I (y := -1) ?_ ?_
    · unfold fX8_mix fX8_mix_0
      rw [ck_t (sh_0 H), rf_0_9 H, br_s, ck_t (sh_28 H), x_goose_out V hx, b2_s, if_pos (by decide)]
    · unfold fX9_mix fX9_mix_0
      rw [ck_t (sh_85 H), m_goose_out W hx, b2_s, if_pos (by decide)]
  · rcases p_cases x2 T.2.1 (by omega) with hx | ⟨j, hj, rfl⟩
    · refine ag_no I (y := -1) ?_ ?_
      · unfold fX8_mix fX8_mix_0
        rw [ck_t (sh_0 H), rf_0_9 H, br_s, ck_t (sh_28 H), x_goose_in V hi, b2_s, if_neg (by decide), ck_t (sh_0 H), rf_0_9 H, br_s, ck_t (sh_28 H), x_goose_out V hx, b2_s, if_pos (by decide)]
      · unfold fX9_mix fX9_mix_0
        rw [ck_t (sh_85 H), m_goose_in W hi, b2_s, if_neg (by decide), ck_t (sh_85 H), m_goose_out W hx, b2_s, if_pos (by decide)]
    · by_cases hij : i = j
      · subst hij
        refine ag_no I (y := -1) ?_ ?_
        · unfold fX8_mix fX8_mix_0
          rw [ck_t (sh_0 H), rf_0_9 H, br_s, ck_t (sh_28 H), x_goose_in V hi, b2_s, if_neg (by decide), ck_t (sh_0 H), rf_0_9 H, br_s, ck_t (sh_28 H), x_goose_in V hi, b2_s, if_neg (by decide), if_pos rfl]
        · unfold fX9_mix fX9_mix_0
          rw [ck_t (sh_85 H), m_goose_in W hi, b2_s, if_neg (by decide), ck_t (sh_85 H), m_goose_in W hi, b2_s, if_neg (by decide), if_pos rfl]
      · have nij : ¬ nI i = nI j := fun z => hij ((nI_eq (by omega) (by omega)).mp z)
        have X0 : ∀ r, (if h.2.1 (31 + 2 * j) 5 = 0 then gz_b2 (fX8_doDeed 0 (2 : Int32) (nI i) (nI j) h) (fun y_23 h_22 => some (y_23, h_22)) else some ((-4 : Int32), h)) = r → fX8_mix 0 (nI i) (nI j) h = r := by
          intro r e
          unfold fX8_mix fX8_mix_0
          rw [ck_t (sh_0 H), rf_0_9 H, br_s, ck_t (sh_28 H), x_goose_in V hi, b2_s, if_neg (by decide), ck_t (sh_0 H), rf_0_9 H, br_s, ck_t (sh_28 H), x_goose_in V hj, b2_s, if_neg (by decide), if_neg nij, ck_t (sh_0 H), rf_0_9 H, br_s, ck_t (sh_28 H), rf_28_1 H, br_s, ck_t (in_30 H (by omega)), nI_clamp (by omega), rf_30 H (by omega), br_s, ck_t (sgk_31 H (by omega))]
          exact e
        have eg := V.gn j hj
        have M0 : ∀ h1, MV h1 T (rn T D ds) → h1.2.1 86 0 = nI ds.length → ∀ r, (if (if (rn T D ds i).2 = true ∨ (rn T D ds j).2 = true then (-4 : Int32) else if ds.length = 40 then -2 else 0) = 0 then gz_b2 (fX9_keepPast 85 h1) (fun _ h_14 => gz_ck (gz_sh h_14 85 9 29) (gz_br (h_14.2.2.2 85 6) fun r_18 => gz_ck (gz_inb h_14 r_18 10 (nI i)) (gz_ck (gz_inb h_14 r_18 10 (nI j)) (if h_14.2.1 r_18 (nI j).toNatClampNeg < h_14.2.1 r_18 (nI i).toNatClampNeg then fX9_mix_75 85 (nI i) (nI j) h_14 else if h_14.2.1 r_18 (nI i).toNatClampNeg = h_14.2.1 r_18 (nI j).toNatClampNeg then if nI j ≤ nI i then fX9_mix_79 85 (nI i) (nI j) h_14 else fX9_mix_75 85 (nI i) (nI j) h_14 else fX9_mix_79 85 (nI i) (nI j) h_14)))) else some (if (rn T D ds i).2 = true ∨ (rn T D ds j).2 = true then (-4 : Int32) else if ds.length = 40 then -2 else 0, h1)) = r → fX9_mix 85 (nI i) (nI j) h1 = r := by
          intro h1 W1 e0 r e
          have H1 := W1.H
          unfold fX9_mix fX9_mix_0
          rw [ck_t (sh_85 H1), m_goose_in W1 hi, b2_s, if_neg (by decide), ck_t (sh_85 H1), m_goose_in W1 hj, b2_s, if_neg (by decide), if_neg nij, ck_t (sh_85 H1), m_no W1 e0 hl hi hj, b2_s, ck_t (sh_85 H1)]
          exact e
        by_cases gj : (rn T D ds j).2 = true
        · refine ag_no I (y := -4) (X0 _ ?_) (M0 h W m0 _ ?_)
          · rw [eg, if_pos gj, if_neg (by decide)]
          · rw [if_pos (Or.inr gj), if_neg (by decide)]
        · have gj2 : (rn T D ds j).2 = false := by simpa using gj
          rw [if_neg gj] at eg
          by_cases g : (rn T D ds i).2 = true
          · refine ag_no I (y := -4) (X0 _ ?_) (M0 h W m0 _ ?_)
            · rw [eg, if_pos (by decide), x_doGone V hi g, b2_s]
            · rw [if_pos (Or.inl g), if_neg (by decide)]
          · have g2 : (rn T D ds i).2 = false := by simpa using g
            have g3 : ¬ ((rn T D ds i).2 = true ∨ (rn T D ds j).2 = true) := fun z => z.elim g gj
            by_cases c : ds.length = 40
            · refine ag_no I (y := -2) (X0 _ ?_) (M0 h W m0 _ ?_)
              · rw [eg, if_pos (by decide), x_doFull V L c hi g2, b2_s]
              · rw [if_neg g3, if_pos c, if_neg (by decide)]
            · refine deed_end I F (d := (2, i, j)) (vd2 hi hj (fun z => hij z.symm)) (lv2 g2 gj2) (by omega) (fun y h1 e => X0 _ ?_) ?_
              · have e' : fX8_doDeed 0 (2 : Int32) (nI i) (nI j) h = some (y, h1) := e
                rw [eg, if_pos (by decide), e', b2_s]
              · intro h1 hk W1 e0 ek Wk
                have Hk := Wk.H
                have bi := V.bi i hi
                have bj := V.bi j hj
                obtain ⟨u1, k1, r1⟩ := m_mix93 Wk hi hj (g := i) (t := j) (w := 1) (Or.inr ⟨rfl, rfl, rfl⟩) gj2
                obtain ⟨u0, k0, r0⟩ := m_mix93 Wk hi hj (g := j) (t := i) (w := 0) (Or.inl ⟨rfl, rfl, rfl⟩) g2
                have k75 : fX9_mix_75 85 (nI i) (nI j) hk = some (nw (rn T D ds i).1, u1) := by
                  unfold fX9_mix_75 fX9_mix_80
                  rw [if_neg (by decide)]
                  exact k1
                have k79 : fX9_mix_79 85 (nI i) (nI j) hk = some (nw (rn T D ds j).1, u0) := by
                  unfold fX9_mix_79 fX9_mix_80
                  rw [if_pos (by decide)]
                  exact k0
                have pm : pfA T (rn T D ds) (2, i, j) = nw (rn T D ds (pf_mix T (rn T D ds) i j).1).1 := rfl
                have pd : pf T (rn T D ds) (2, i, j) = mixD T (rn T D ds) (pf_mix T (rn T D ds) i j).1 (pf_mix T (rn T D ds) i j).2 := rfl
                have goal : ∃ h2, (if nI (T.2.2.2.2.2 j) < nI (T.2.2.2.2.2 i) then some (nw (rn T D ds i).1, u1) else if nI (T.2.2.2.2.2 i) = nI (T.2.2.2.2.2 j) then if nI j ≤ nI i then some (nw (rn T D ds j).1, u0) else some (nw (rn T D ds i).1, u1) else some (nw (rn T D ds j).1, u0)) = some (nw (rn T D ds (pf_mix T (rn T D ds) i j).1).1, h2) ∧ fM hk h2 ∧ MV h2 T (mixD T (rn T D ds) (pf_mix T (rn T D ds) i j).1 (pf_mix T (rn T D ds) i j).2) := by
                  unfold pf_mix
                  by_cases q1 : T.2.2.2.2.2 j < T.2.2.2.2.2 i
                  · rw [if_pos (nI_lt q1 (by omega)), if_pos (Or.inl q1)]
                    exact ⟨u1, rfl, r1.2.fM, r1.1⟩
                  · rw [if_neg (nI_nlt (by omega) (by omega))]
                    by_cases q2 : T.2.2.2.2.2 i = T.2.2.2.2.2 j
                    · rw [if_pos (show nI (T.2.2.2.2.2 i) = nI (T.2.2.2.2.2 j) by rw [q2])]
                      by_cases q3 : i < j
                      · rw [if_neg (nI_ge q3 (by omega)), if_pos (Or.inr ⟨q2, q3⟩)]
                        exact ⟨u1, rfl, r1.2.fM, r1.1⟩
                      · rw [if_pos (nI_le (by omega) (by omega)), if_neg (show ¬ (T.2.2.2.2.2 j < T.2.2.2.2.2 i ∨ (T.2.2.2.2.2 i = T.2.2.2.2.2 j ∧ i < j)) from fun z => by omega)]
                        exact ⟨u0, rfl, r0.2.fM, r0.1⟩
                    · rw [if_neg (fun z => q2 ((nI_eq (by omega) (by omega)).mp z)), if_neg (show ¬ (T.2.2.2.2.2 j < T.2.2.2.2.2 i ∨ (T.2.2.2.2.2 i = T.2.2.2.2.2 j ∧ i < j)) from fun z => by omega)]
                      exact ⟨u0, rfl, r0.2.fM, r0.1⟩
                obtain ⟨h2, e2, f2, W2⟩ := goal
                refine ⟨h2, M0 h1 W1 e0 _ ?_, f2, by rw [pd]; exact W2⟩
                rw [if_neg g3, if_neg c, if_pos rfl, ek, b2_s, ck_t (sh_85 Hk), rf_85_6 Hk, br_s, ck_t (in_90 Hk (by omega)), ck_t (in_90 Hk (by omega)), nI_clamp (by omega), nI_clamp (by omega), Wk.rk i hi, Wk.rk j hj, k75, k79, pm]
                exact e2
end
