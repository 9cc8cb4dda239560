/-! PURE: deeds of the class -/
/-- only geese of now change -/
def fl (h h' : gz_H) : Prop := h'.1 = h.1 ∧ h'.2.2 = h.2.2 ∧ ∀ a k, a < 31 ∨ 42 < a → h'.2.1 a k = h.2.1 a k
theorem fl.rf {h : gz_H} : fl h h := ⟨rfl, rfl, fun _ _ _ => rfl⟩
theorem fl.tr {h h1 h2 : gz_H} (a : fl h h1) (b : fl h1 h2) : fl h h2 := ⟨b.1.trans a.1, b.2.1.trans a.2.1, fun x k e => (b.2.2 x k e).trans (a.2.2 x k e)⟩
theorem fr2.fl {h h' : gz_H} {i : Nat} (hi : i < 6) (f : fr2 h h' (31 + 2 * i)) : fl h h' := ⟨f.1, f.2.1, fun a k e => f.2.2.1 a k (by omega) (by omega)⟩
section
variable {h : gz_H} {T : gz_T} {E : gz_D}
theorem xv_up (V : XV h T E) {i : Nat} (hi : i < T.2.1) {h' : gz_H} {l : List Nat} {b : Bool} (e1 : h'.1 = h.1) (e2 : h'.2.2 = h.2.2) (o1 : ∀ a k, a ≠ 31 + 2 * i → a ≠ 31 + 2 * i + 1 → h'.2.1 a k = h.2.1 a k) (o2 : ∀ k, k ≠ 1 → k ≠ 5 → h'.2.1 (31 + 2 * i) k = h.2.1 (31 + 2 * i) k) (G : gv h' (31 + 2 * i) l) (g5 : h'.2.1 (31 + 2 * i) 5 = if b = true then 1 else 0) (w : wd T (va_up E i (l, b))) : XV h' T (va_up E i (l, b)) := by
  obtain ⟨H, ws, d, x1, x2, x3, x4⟩ := V
  have hb := ws.2.1
  refine ⟨H.of e1 (congrArg Prod.snd e2), ws, w, by rw [o1 28 2 (by omega) (by omega)]; exact x1, by rw [o1 28 3 (by omega) (by omega)]; exact x2, fun k hk => by rw [o1 (28 + 1) k (by omega) (by omega)]; exact x3 k hk, fun j hj => ?_⟩
  obtain ⟨y1, y2, y3, y4, y5⟩ := x4 j hj
  by_cases e : j = i
  · subst e
    rw [up_at]
    refine ⟨G, ?_, ?_, ?_, g5⟩
    · show h'.2.1 (31 + 2 * j) 2 = _
      rw [o2 2 (by omega) (by omega)]; exact y2
    · show h'.2.1 (31 + 2 * j) 3 = _
      rw [o2 3 (by omega) (by omega)]; exact y3
    · show h'.2.1 (31 + 2 * j) 4 = _
      rw [o2 4 (by omega) (by omega)]; exact y4
  · rw [up_ne e]
    have o : ∀ k, h'.2.1 (28 + 3 + 2 * j) k = h.2.1 (28 + 3 + 2 * j) k := fun k => o1 _ k (by omega) (by omega)
    exact ⟨y1.cg e1 (congrArg Prod.snd e2) (fun k => ⟨o k, o1 _ k (by omega) (by omega)⟩), by rw [o]; exact y2, by rw [o]; exact y3, by rw [o]; exact y4, by rw [o]; exact y5⟩
theorem xv_upf (V : XV h T E) {i : Nat} (hi : i < T.2.1) {h' : gz_H} {l : List Nat} (f : fr2 h h' (31 + 2 * i)) (G : gv h' (31 + 2 * i) l) (w : wd T (va_up E i (l, (E i).2))) : XV h' T (va_up E i (l, (E i).2)) :=
  xv_up V hi f.1 f.2.1 f.2.2.1 (fun k h1 _ => f.2.2.2 k h1) G (by rw [f.2.2.2 5 (by decide)]; exact (V.2.2.2.2.2.2 i hi).2.2.2.2) w
theorem x_takeE (V : XV h T E) {i f : Nat} (hi : i < T.2.1) (hf : f < T.1) (al : (E i).2 = false) : ∃ h', fX2_take (31 + 2 * i) (nI f) h = some (tkA (T.2.2.2.2.1 i) (E i).1 f, h') ∧ XV h' T (va_up E i (tk (T.2.2.2.2.1 i) (E i).1 f, (E i).2)) ∧ fl h h' := by
  have b := V.b
  have bi := V.bi i hi
  obtain ⟨h', e, G, fr⟩ := x_take (V.gv i hi) (fun x hx => (wd.bf V.2.1 V.2.2.1 i hi hx).2) (V.mo i hi) bi.2.1 bi.2.2.1 bi.2.2.2.2.2 (f := f) (by omega)
  exact ⟨h', e, xv_upf V hi fr G (wd_up V.2.2.1 (fun _ => gd_tk V.2.1 hi hf (V.2.2.1.gd hi)) (lv_e al)), fr.fl (by omega)⟩
theorem x_loseE (V : XV h T E) {i : Nat} (hi : i < T.2.1) (al : (E i).2 = false) : ∃ h', fX2_loseNewest (31 + 2 * i) h = some (nw (E i).1, h') ∧ XV h' T (va_up E i ((E i).1.dropLast, (E i).2)) ∧ fl h h' := by
  have b := V.b
  obtain ⟨h', e, G, fr⟩ := x_lose (V.gv i hi)
  have g := V.2.2.1.gd hi
  exact ⟨h', e, xv_upf V hi fr G (wd_up V.2.2.1 (fun _ => ⟨by have := g.1; simp; omega, g.2.1.sublist (List.dropLast_sublist _), fun f hf => g.2.2 f (List.dropLast_subset _ hf)⟩) (lv_e al)), fr.fl (by omega)⟩
theorem x_leaveE (V : XV h T E) {i : Nat} (hi : i < T.2.1) : ∃ h', fX2_leave (31 + 2 * i) h = some ((), h') ∧ XV h' T (va_up E i ([], true)) ∧ fl h h' := by
  have H := V.H
  have b := V.b
  have G := V.gv i hi
  refine ⟨uI (uI h (31 + 2 * i) 1 (nI 0)) (31 + 2 * i) 5 (nI 1), ?_, xv_up V hi (l := []) (b := true) rfl rfl (fun a k h1 h2 => by rw [uI_ne (by omega), uI_ne (by omega)]) (fun k h1 h2 => by rw [uI_ne (by omega), uI_ne (by omega)]) ⟨G.1, G.2.1, G.2.2.1, by simp, ?_, fun k hk => absurd hk (by simp)⟩ (by rw [uI_at]; rfl) (wd_up V.2.2.1 (fun _ => gd_nil) (fun _ => rfl)), rfl, rfl, fun a k e => by rw [uI_ne (by omega), uI_ne (by omega)]⟩
  · unfold fX2_leave fX2_leave_0
    simp (disch := first | assumption | omega | trivial | rfl) only [ck_1, br_s, b2_s, bi_s, lt_d, bo_0, bo_1, lt_d, uI_1, uI_R, uI_L, uF_1, uF_R, uF_L, uL_1, uL_I, uL_R, uR_1, uR_I, uR_L, inb_uI, inb_uF, inb_uL, inb_uR, len_uI, len_uF, sh_uI, sh_uF, sh_uL, sh_uR, rf_0_0, rf_0_1, rf_0_2, rf_0_3, rf_0_4, rf_0_5, rf_0_6, rf_0_7, rf_0_8, rf_0_9, rf_0_12, rf_0_13, rf_0_14, rf_0_15, rf_0_16, rf_0_17, rf_1_1, rf_1_2, rf_10_1, rf_10_2, rf_18_0, rf_21_0, rf_23_0, rf_25_0, rf_79_0, rf_81_0, rf_83_0, rf_28_0, rf_28_1, rf_31_0, rf_33_0, rf_35_0, rf_37_0, rf_39_0, rf_41_0, rf_43_0, rf_43_1, rf_46_0, rf_48_0, rf_50_0, rf_52_0, rf_54_0, rf_56_0, rf_58_0, rf_58_1, rf_61_0, rf_63_0, rf_65_0, rf_67_0, rf_69_0, rf_71_0, rf_85_0, rf_85_2, rf_85_4, rf_85_5, rf_85_6, rf_85_7, rf_85_8, rf_85_9, rf_85_10, rf_85_15, rf_85_19, rf_85_21, rf_85_22, rf_85_23, rf_85_26, rf_85_27, rf_85_28, rf_2, rf_11, rf_30, rf_45, rf_60, rf_27, sgr_31, sgr_46, sgr_61, slr_79, in_2, in_9, ln_9, in_11, in_16, ln_16, in_19, ln_19, in_22, ln_22, in_24, ln_24, in_26, ln_26, in_27, in_29, ln_29, in_30, in_44, ln_44, in_45, in_59, ln_59, in_60, in_73, ln_73, in_74, ln_74, in_75, ln_75, in_76, ln_76, in_77, ln_77, in_78, ln_78, in_80, ln_80, in_82, ln_82, in_84, ln_84, in_86, ln_86, in_87, ln_87, in_88, ln_88, in_89, ln_89, in_90, ln_90, in_91, ln_91, in_92, ln_92, in_93, ln_93, in_94, ln_94, in_95, ln_95, in_96, ln_96, in_97, ln_97, in_98, ln_98, in_99, ln_99, in_100, ln_100, in_101, ln_101, in_102, ln_102, sh_0, sh_1, sh_10, sh_17, sh_18, sh_20, sh_21, sh_23, sh_25, sh_28, sh_43, sh_58, sh_79, sh_81, sh_83, sh_85, sgk_31, sgi_31, sgk_46, sgi_46, sgk_61, sgi_61, slk_79, sli_79, ini_rw, ini_tx, li_0, li_1, li_2, li_3, li_4, li_5, li_6, li_7, li_8, li_9, li_10, li_11, li_12, li_13, li_14, li_15, li_16, li_31, li_32, li_36, li_40, li_48, li_53, li_55, li_56, li_57, li_58, li_60, li_63, li_64, li_80, li_97, li_98, li_99, li_100, li_103, li_104, li_108, li_115, li_116, li_118, li_200, li_256, li_1000, li_2256, not_true_eq_false, not_false_eq_true, Bool.false_eq_true, if_true, if_false, Nat.or_zero, Nat.zero_or, pk_rem, nI_m31, nI_sl, nI_bt, nI_or, nI_sub', nI_n9, nI_9n, nI_n1, bo_n0, bo_n1, bo_if, nI_if, nI_if0, nI_if1, if_10, if_11, t_bits, t_bc, t_has, nI_clamp, nI_add, pk_mul, pk_sub, nI_eq, nI_leI, nI_ltI, if_pos, if_neg, uI_at, uI_to, uI_ne, uF_at, uF_ne]
  · rw [uI_ne (by omega), uI_at]; rfl
/-! mixing -/
theorem rk_c : ∀ a b : Fin 10, ((0 : Int32) < nI a.1 - nI b.1 ↔ b.1 < a.1) ∧ (nI a.1 - nI b.1 = 0 ↔ a.1 = b.1) := by decide
def mixD (T : gz_T) (E : gz_D) (g t : Nat) : gz_D := match (E g).1.getLast? with
  | some f => va_up E t (tk (T.2.2.2.2.1 t) (E t).1 f, (E t).2)
  | none => E
theorem nw_last {l : List Nat} {f : Nat} (e : l.getLast? = some f) : nw l = nI f := by unfold nw; rw [e]
theorem nw_none {l : List Nat} (e : l.getLast? = none) : nw l = -9 := by unfold nw; rw [e]
theorem x_mix81 (V : XV h T E) {t f : Nat} (ht : t < T.2.1) (hf : f < T.1) (al : (E t).2 = false) : ∃ h', fX1_mixAtPond_81 (nI f) 30 (nI t) h = some (nI f, h') ∧ XV h' T (va_up E t (tk (T.2.2.2.2.1 t) (E t).1 f, (E t).2)) ∧ fl h h' := by
  have H := V.H
  have b := V.b
  obtain ⟨h', e, V', f'⟩ := x_takeE V ht hf al
  refine ⟨h', ?_, V', f'⟩
  unfold fX1_mixAtPond_81
  simp (disch := first | assumption | omega | trivial | rfl) only [ck_1, br_s, b2_s, bi_s, lt_d, bo_0, bo_1, lt_d, uI_1, uI_R, uI_L, uF_1, uF_R, uF_L, uL_1, uL_I, uL_R, uR_1, uR_I, uR_L, inb_uI, inb_uF, inb_uL, inb_uR, len_uI, len_uF, sh_uI, sh_uF, sh_uL, sh_uR, rf_0_0, rf_0_1, rf_0_2, rf_0_3, rf_0_4, rf_0_5, rf_0_6, rf_0_7, rf_0_8, rf_0_9, rf_0_12, rf_0_13, rf_0_14, rf_0_15, rf_0_16, rf_0_17, rf_1_1, rf_1_2, rf_10_1, rf_10_2, rf_18_0, rf_21_0, rf_23_0, rf_25_0, rf_79_0, rf_81_0, rf_83_0, rf_28_0, rf_28_1, rf_31_0, rf_33_0, rf_35_0, rf_37_0, rf_39_0, rf_41_0, rf_43_0, rf_43_1, rf_46_0, rf_48_0, rf_50_0, rf_52_0, rf_54_0, rf_56_0, rf_58_0, rf_58_1, rf_61_0, rf_63_0, rf_65_0, rf_67_0, rf_69_0, rf_71_0, rf_85_0, rf_85_2, rf_85_4, rf_85_5, rf_85_6, rf_85_7, rf_85_8, rf_85_9, rf_85_10, rf_85_15, rf_85_19, rf_85_21, rf_85_22, rf_85_23, rf_85_26, rf_85_27, rf_85_28, rf_2, rf_11, rf_30, rf_45, rf_60, rf_27, sgr_31, sgr_46, sgr_61, slr_79, in_2, in_9, ln_9, in_11, in_16, ln_16, in_19, ln_19, in_22, ln_22, in_24, ln_24, in_26, ln_26, in_27, in_29, ln_29, in_30, in_44, ln_44, in_45, in_59, ln_59, in_60, in_73, ln_73, in_74, ln_74, in_75, ln_75, in_76, ln_76, in_77, ln_77, in_78, ln_78, in_80, ln_80, in_82, ln_82, in_84, ln_84, in_86, ln_86, in_87, ln_87, in_88, ln_88, in_89, ln_89, in_90, ln_90, in_91, ln_91, in_92, ln_92, in_93, ln_93, in_94, ln_94, in_95, ln_95, in_96, ln_96, in_97, ln_97, in_98, ln_98, in_99, ln_99, in_100, ln_100, in_101, ln_101, in_102, ln_102, sh_0, sh_1, sh_10, sh_17, sh_18, sh_20, sh_21, sh_23, sh_25, sh_28, sh_43, sh_58, sh_79, sh_81, sh_83, sh_85, sgk_31, sgi_31, sgk_46, sgi_46, sgk_61, sgi_61, slk_79, sli_79, ini_rw, ini_tx, li_0, li_1, li_2, li_3, li_4, li_5, li_6, li_7, li_8, li_9, li_10, li_11, li_12, li_13, li_14, li_15, li_16, li_31, li_32, li_36, li_40, li_48, li_53, li_55, li_56, li_57, li_58, li_60, li_63, li_64, li_80, li_97, li_98, li_99, li_100, li_103, li_104, li_108, li_115, li_116, li_118, li_200, li_256, li_1000, li_2256, not_true_eq_false, not_false_eq_true, Bool.false_eq_true, if_true, if_false, Nat.or_zero, Nat.zero_or, pk_rem, nI_m31, nI_sl, nI_bt, nI_or, nI_sub', nI_n9, nI_9n, nI_n1, bo_n0, bo_n1, bo_if, nI_if, nI_if0, nI_if1, if_10, if_11, t_bits, t_bc, t_has, nI_clamp, nI_add, pk_mul, pk_sub, nI_eq, nI_leI, nI_ltI, if_pos, if_neg, uI_at, uI_to, uI_ne, uF_at, uF_ne, e]
theorem x_mix54 (V : XV h T E) {i j g t w : Nat} (hi : i < T.2.1) (hj : j < T.2.1) (hw : (w = 0 ∧ g = j ∧ t = i) ∨ (w = 1 ∧ g = i ∧ t = j)) (al : (E t).2 = false) : ∃ h', fX1_mixAtPond_54 28 (nI i) (nI j) (nI w) 30 (nI g) h = some (nw (E g).1, h') ∧ XV h' T (mixD T E g t) ∧ fl h h' := by
  have H := V.H
  have b := V.b
  have hg : g < T.2.1 := by rcases hw with ⟨_, q, _⟩ | ⟨_, q, _⟩ <;> rw [q] <;> assumption
  have ht : t < T.2.1 := by rcases hw with ⟨_, _, q⟩ | ⟨_, _, q⟩ <;> rw [q] <;> assumption
  unfold fX1_mixAtPond_54 mixD
  rw [ck_t (in_30 H (by omega)), nI_clamp (by omega), rf_30 H (by omega), br_s, ck_t (sgk_31 H (by omega)), x_newest (V.gv g hg), b2_s]
  cases e : (E g).1.getLast? with
  | none =>
    rw [nw_none e, if_pos rfl]
    exact ⟨h, rfl, V, fl.rf⟩
  | some f =>
    have hf := (V.2.2.1.gd hg).2.2 f (List.mem_of_getLast? e)
    obtain ⟨h', e1, V', f'⟩ := x_mix81 V ht hf al
    refine ⟨h', ?_, V', f'⟩
    rw [nw_last e, if_neg (fun z => by have := (nI_n9 (k := f) (by omega)).mp z; exact this), ck_t (sh_28 H), rf_28_1 H, br_s]
    rcases hw with ⟨q1, q2, q3⟩ | ⟨q1, q2, q3⟩
    · rw [q1, if_pos (by decide), ← q3, e1]
    · rw [q1, if_neg (by decide), ← q3, e1]
theorem x_mix (V : XV h T E) {i j : Nat} (hi : i < T.2.1) (hj : j < T.2.1) (hij : j ≠ i) (ai : (E i).2 = false) (aj : (E j).2 = false) : ∃ h', fX1_mixAtPond 28 (nI i) (nI j) h = some (nw (E (pf_mix T E i j).1).1, h') ∧ XV h' T (mixD T E (pf_mix T E i j).1 (pf_mix T E i j).2) ∧ fl h h' := by
  have H := V.H
  have b := V.b
  have bi := V.bi i hi
  have bj := V.bi j hj
  have c := rk_c ⟨T.2.2.2.2.2 i, by omega⟩ ⟨T.2.2.2.2.2 j, by omega⟩
  dsimp only at c
  obtain ⟨h1, e1, r1⟩ := x_mix54 V hi hj (g := i) (t := j) (w := 1) (Or.inr ⟨rfl, rfl, rfl⟩) aj
  obtain ⟨h0, e0, r0⟩ := x_mix54 V hi hj (g := j) (t := i) (w := 0) (Or.inl ⟨rfl, rfl, rfl⟩) ai
  have k1 : fX1_mixAtPond_33 28 (nI i) (nI j) h = some (nw (E i).1, h1) := by
    unfold fX1_mixAtPond_33 fX1_mixAtPond_38
    rw [ck_t (sh_28 H), rf_28_1 H, br_s, if_neg (by decide)]
    exact e1
  have k0 : fX1_mixAtPond_37 28 (nI i) (nI j) h = some (nw (E j).1, h0) := by
    unfold fX1_mixAtPond_37 fX1_mixAtPond_38
    rw [ck_t (sh_28 H), rf_28_1 H, br_s, if_pos (by decide)]
    exact e0
  unfold fX1_mixAtPond fX1_mixAtPond_0 pf_mix
  rw [ck_t (sh_28 H), rf_28_1 H, br_s, ck_t (in_30 H (by omega)), nI_clamp (by omega), rf_30 H (by omega), br_s, ck_t (sgk_31 H (by omega)), ck_t (in_30 H (by omega)), nI_clamp (by omega), rf_30 H (by omega), br_s, ck_t (sgk_31 H (by omega)), V.rk i hi, V.rk j hj, k1, k0]
  by_cases q1 : T.2.2.2.2.2 j < T.2.2.2.2.2 i
  · rw [if_pos (c.1.mpr q1), if_pos (Or.inl q1)]
    exact ⟨h1, rfl, r1⟩
  · rw [if_neg (fun z => q1 (c.1.mp z))]
    by_cases q2 : T.2.2.2.2.2 i = T.2.2.2.2.2 j
    · rw [if_pos (c.2.mpr q2)]
      by_cases q3 : i < j
      · rw [if_neg (nI_ge q3 (by omega)), if_pos (Or.inr ⟨q2, q3⟩)]
        exact ⟨h1, rfl, r1⟩
      · rw [if_pos (nI_le (by omega) (by omega)), if_neg (fun z => by omega)]
        exact ⟨h0, rfl, r0⟩
    · rw [if_neg (fun z => q2 (c.2.mp z)), if_neg (fun z => by omega)]
      exact ⟨h0, rfl, r0⟩
/-! eating -/
def lostN (T : gz_T) (E : gz_D) : Nat := pc (sd (2 ^ T.1 - 1) (hall E T.2.1))
theorem x_dev48 (V : XV h T E) {i : Nat} (hi : i < T.2.1) : ∃ h', fX1_devour_48 28 (31 + 2 * i) h = some (nI (lostN T (va_up E i ([], true))), h') ∧ XV h' T (va_up E i ([], true)) ∧ fl h h' := by
  have H := V.H
  have b := V.b
  have p2 := p2_lt b.1
  obtain ⟨h', e, V', f'⟩ := x_leaveE V hi
  have H' := V'.H
  refine ⟨h', ?_, V', f'⟩
  have hs : sd (2 ^ T.1 - 1) (hall (va_up E i ([], true)) T.2.1) < 256 := sd_lt (c := 8) (by omega)
  unfold fX1_devour_48 lostN
  rw [ck_t (sgk_31 H (by omega)), e, b2_s, ck_t (sh_28 H'), x_heldByNobody V', b2_s, t_bc hs, b2_s]
theorem up_up {E : gz_D} {i : Nat} {x y : List Nat × Bool} : va_up (va_up E i x) i y = va_up E i y := bx_uu _ _ _ _
theorem up_self {E : gz_D} {i : Nat} : va_up E i (E i) = E := by
  funext j
  by_cases e : j = i
  · subst e; rw [up_at]
  · rw [up_ne e]
theorem take_succ_getD {l : List Nat} {k : Nat} (hk : k < l.length) : l.take (k + 1) = l.take k ++ [l.getD k 0] := by
  rw [List.take_succ, List.getElem?_eq_getElem hk, List.getD_eq_getElem?_getD, List.getElem?_eq_getElem hk]
  rfl
theorem x_devour (V : XV h T E) {i j : Nat} (hi : i < T.2.1) (hj : j = 15 ∨ (j < T.2.1 ∧ j ≠ i)) (aj : j ≠ 15 → (E j).2 = false) : ∃ h', fX1_devour 28 (nI i) (nI j) h = some (nI (lostN T (pf T E (3, i, j))), h') ∧ XV h' T (pf T E (3, i, j)) ∧ fl h h' := by
  have H := V.H
  have b := V.b
  have e3 : pf T E (3, i, j) = if j = 15 then va_up E i ([], true) else va_up (va_up E j ((E i).1.foldl (tk (T.2.2.2.2.1 j)) (E j).1, (E j).2)) i ([], true) := rfl
  unfold fX1_devour fX1_devour_0
  rw [ck_t (sh_28 H), rf_28_1 H, br_s, ck_t (in_30 H (by omega)), nI_clamp (by omega), rf_30 H (by omega), br_s, e3]
  by_cases c : j = 15
  · subst c
    rw [if_pos rfl, if_pos (by decide)]
    exact x_dev48 V hi
  · obtain ⟨hj, hij⟩ := hj.resolve_left c
    have bi := V.bi i hi
    rw [if_neg c, if_neg (show ¬ nI j = (15 : Int32) from fun z => c ((nI_eq (a := j) (b := 15) (by omega) (by decide)).mp z))]
    have hfu : (E i).1.length < 0 + gz_fu := by show (E i).1.length < 0 + 100000; omega
    generalize gz_fu = fu at hfu ⊢
    refine lpr (fun m k (s : gz_H) => fX1_devour_16 m 28 (nI j) (31 + 2 * i) (nI k) s) (fun k s => XV s T (va_up E j (((E i).1.take k).foldl (tk (T.2.2.2.2.1 j)) (E j).1, (E j).2)) ∧ fl h s) (E i).1.length (fun r => ∃ h', r = some (nI (lostN T (va_up (va_up E j ((E i).1.foldl (tk (T.2.2.2.2.1 j)) (E j).1, (E j).2)) i ([], true))), h') ∧ XV h' T (va_up (va_up E j ((E i).1.foldl (tk (T.2.2.2.2.1 j)) (E j).1, (E j).2)) i ([], true)) ∧ fl h h') ?_ ?_ fu 0 h (by omega) hfu ⟨?_, fl.rf⟩
    · intro m s ⟨V1, f1⟩
      rw [List.take_length] at V1
      have H1 := V1.H
      obtain ⟨h', e, V', f'⟩ := x_dev48 V1 hi
      refine ⟨h', ?_, V', f1.tr f'⟩
      have en := V1.mn i hi
      rw [up_ne (fun z => hij z.symm)] at en
      rw [fX1_devour_16, ck_t (sgk_31 H1 (by omega)), en, if_pos (nI_le (Nat.le_refl _) (by omega)), e]
    · intro m k s hk ⟨V1, f1⟩
      have H1 := V1.H
      have hf := (V.2.2.1.gd hi).2.2 _ (ld_mem hk)
      obtain ⟨h', e, V', f'⟩ := x_takeE V1 hj hf (by rw [up_at]; exact aj c)
      rw [up_at, up_up] at V'
      rw [up_at] at e
      refine ⟨h', ⟨?_, f1.tr f'⟩, ?_⟩
      · rw [take_succ_getD hk, List.foldl_append]
        exact V'
      · have en := V1.mn i hi
        have ef := V1.fc i k hi
        rw [up_ne (fun z => hij z.symm)] at en ef
        rw [fX1_devour_16]
        simp (disch := first | assumption | omega | trivial | rfl) only [ck_1, br_s, b2_s, bi_s, lt_d, bo_0, bo_1, lt_d, uI_1, uI_R, uI_L, uF_1, uF_R, uF_L, uL_1, uL_I, uL_R, uR_1, uR_I, uR_L, inb_uI, inb_uF, inb_uL, inb_uR, len_uI, len_uF, sh_uI, sh_uF, sh_uL, sh_uR, rf_0_0, rf_0_1, rf_0_2, rf_0_3, rf_0_4, rf_0_5, rf_0_6, rf_0_7, rf_0_8, rf_0_9, rf_0_12, rf_0_13, rf_0_14, rf_0_15, rf_0_16, rf_0_17, rf_1_1, rf_1_2, rf_10_1, rf_10_2, rf_18_0, rf_21_0, rf_23_0, rf_25_0, rf_79_0, rf_81_0, rf_83_0, rf_28_0, rf_28_1, rf_31_0, rf_33_0, rf_35_0, rf_37_0, rf_39_0, rf_41_0, rf_43_0, rf_43_1, rf_46_0, rf_48_0, rf_50_0, rf_52_0, rf_54_0, rf_56_0, rf_58_0, rf_58_1, rf_61_0, rf_63_0, rf_65_0, rf_67_0, rf_69_0, rf_71_0, rf_85_0, rf_85_2, rf_85_4, rf_85_5, rf_85_6, rf_85_7, rf_85_8, rf_85_9, rf_85_10, rf_85_15, rf_85_19, rf_85_21, rf_85_22, rf_85_23, rf_85_26, rf_85_27, rf_85_28, rf_2, rf_11, rf_30, rf_45, rf_60, rf_27, sgr_31, sgr_46, sgr_61, slr_79, in_2, in_9, ln_9, in_11, in_16, ln_16, in_19, ln_19, in_22, ln_22, in_24, ln_24, in_26, ln_26, in_27, in_29, ln_29, in_30, in_44, ln_44, in_45, in_59, ln_59, in_60, in_73, ln_73, in_74, ln_74, in_75, ln_75, in_76, ln_76, in_77, ln_77, in_78, ln_78, in_80, ln_80, in_82, ln_82, in_84, ln_84, in_86, ln_86, in_87, ln_87, in_88, ln_88, in_89, ln_89, in_90, ln_90, in_91, ln_91, in_92, ln_92, in_93, ln_93, in_94, ln_94, in_95, ln_95, in_96, ln_96, in_97, ln_97, in_98, ln_98, in_99, ln_99, in_100, ln_100, in_101, ln_101, in_102, ln_102, sh_0, sh_1, sh_10, sh_17, sh_18, sh_20, sh_21, sh_23, sh_25, sh_28, sh_43, sh_58, sh_79, sh_81, sh_83, sh_85, sgk_31, sgi_31, sgk_46, sgi_46, sgk_61, sgi_61, slk_79, sli_79, ini_rw, ini_tx, li_0, li_1, li_2, li_3, li_4, li_5, li_6, li_7, li_8, li_9, li_10, li_11, li_12, li_13, li_14, li_15, li_16, li_31, li_32, li_36, li_40, li_48, li_53, li_55, li_56, li_57, li_58, li_60, li_63, li_64, li_80, li_97, li_98, li_99, li_100, li_103, li_104, li_108, li_115, li_116, li_118, li_200, li_256, li_1000, li_2256, not_true_eq_false, not_false_eq_true, Bool.false_eq_true, if_true, if_false, Nat.or_zero, Nat.zero_or, pk_rem, nI_m31, nI_sl, nI_bt, nI_or, nI_sub', nI_n9, nI_9n, nI_n1, bo_n0, bo_n1, bo_if, nI_if, nI_if0, nI_if1, if_10, if_11, t_bits, t_bc, t_has, nI_clamp, nI_add, pk_mul, pk_sub, nI_eq, nI_leI, nI_ltI, if_pos, if_neg, uI_at, uI_to, uI_ne, uF_at, uF_ne, en, ef, e]
    · rw [List.take_zero]
      show XV h T (va_up E j (E j))
      rw [up_self]
      exact V
/-! a deed -/
def pfA (T : gz_T) (E : gz_D) (d : gz_De) : Int32 :=
  if d.1 = 0 then tkA (T.2.2.2.2.1 d.2.1) (E d.2.1).1 d.2.2
  else if d.1 = 1 then nw (E d.2.1).1
  else if d.1 = 2 then nw (E (pf_mix T E d.2.1 d.2.2).1).1
  else nI (lostN T (pf T E d))
theorem x_perform (V : XV h T E) {d : gz_De} (v : vd T d) (l : lv E d) : ∃ h', fX1_perform 28 (nI d.1) (nI d.2.1) (nI d.2.2) h = some (pfA T E d, h') ∧ XV h' T (pf T E d) ∧ fl h h' := by
  have H := V.H
  have b := V.b
  obtain ⟨a, i, j⟩ := d
  obtain ⟨v1, v2, v3, v4, v5, v6⟩ := v
  obtain ⟨l1, l2, l3⟩ := l
  dsimp only at v1 v2 v3 v4 v5 v6 l1 l2 l3
  unfold fX1_perform fX1_perform_0 pfA
  dsimp only
  match a, v1 with
  | 0, _ =>
    obtain ⟨h', e, V', f'⟩ := x_takeE V v2 (v3 rfl) l1
    refine ⟨h', ?_, V', f'⟩
    rw [if_pos (by decide), ck_t (sh_28 H), rf_28_1 H, br_s, ck_t (in_30 H (by omega)), nI_clamp (by omega), rf_30 H (by omega), br_s, ck_t (sgk_31 H (by omega)), e, b2_s, if_pos rfl]
  | 1, _ =>
    obtain ⟨h', e, V', f'⟩ := x_loseE V v2 l1
    refine ⟨h', ?_, V', f'⟩
    rw [if_neg (by decide), if_pos (by decide), ck_t (sh_28 H), rf_28_1 H, br_s, ck_t (in_30 H (by omega)), nI_clamp (by omega), rf_30 H (by omega), br_s, ck_t (sgk_31 H (by omega)), e, b2_s, if_neg (by decide), if_pos rfl]
  | 2, _ =>
    obtain ⟨h', e, V', f'⟩ := x_mix V v2 (v5 rfl).1 (v5 rfl).2 l1 (l2 rfl)
    refine ⟨h', ?_, V', f'⟩
    rw [if_neg (by decide), if_neg (by decide), if_pos (by decide), ck_t (sh_28 H), e, b2_s, if_neg (by decide), if_neg (by decide), if_pos rfl]
  | 3, _ =>
    obtain ⟨h', e, V', f'⟩ := x_devour V v2 (v6 rfl) (l3 rfl)
    refine ⟨h', ?_, V', f'⟩
    rw [if_neg (by decide), if_neg (by decide), if_neg (by decide), ck_t (sh_28 H), e, b2_s, if_neg (by decide), if_neg (by decide), if_neg (by decide)]
end
