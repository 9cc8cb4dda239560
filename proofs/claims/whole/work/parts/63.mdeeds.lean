/-! PURE: deeds of the reference -/
/-- only the row of now changes, but for how many deeds there are -/
def fm (h h' : gz_H) : Prop := h'.1 = h.1 ∧ h'.2.2 = h.2.2 ∧ ∀ a k, (a ≠ 86 ∨ 56 ≤ k ∨ k = 0) → h'.2.1 a k = h.2.1 a k
theorem fm.rf {h : gz_H} : fm h h := ⟨rfl, rfl, fun _ _ _ => rfl⟩
theorem fm.tr {h h1 h2 : gz_H} (a : fm h h1) (b : fm h1 h2) : fm h h2 := ⟨b.1.trans a.1, b.2.1.trans a.2.1, fun x k e => (b.2.2 x k e).trans (a.2.2 x k e)⟩
/-- a goose of the reference -/
def mg (h : gz_H) (i : Nat) (l : List Nat) : Prop := l.length ≤ 8 ∧ h.2.1 86 (2 + i) = nI l.length ∧ ∀ k, k < l.length → h.2.1 86 (8 + 8 * i + k) = nI (l.getD k 0)
/-- only goose i of the row changes -/
def fg (h h' : gz_H) (i : Nat) : Prop := h'.1 = h.1 ∧ h'.2.2 = h.2.2 ∧ ∀ a k, (a ≠ 86 ∨ (k ≠ 2 + i ∧ (k < 8 + 8 * i ∨ 16 + 8 * i ≤ k))) → h'.2.1 a k = h.2.1 a k
theorem fg.rf {h : gz_H} {i : Nat} : fg h h i := ⟨rfl, rfl, fun _ _ _ => rfl⟩
theorem fg.tr {h h1 h2 : gz_H} {i : Nat} (a : fg h h1 i) (b : fg h1 h2 i) : fg h h2 i := ⟨b.1.trans a.1, b.2.1.trans a.2.1, fun x k e => (b.2.2 x k e).trans (a.2.2 x k e)⟩
theorem fg.fm {h h' : gz_H} {i : Nat} (hi : i < 6) (f : fg h h' i) : fm h h' := ⟨f.1, f.2.1, fun a k e => f.2.2 a k (by omega)⟩
theorem fg.la {h h' : gz_H} {i : Nat} (f : fg h h' i) (H : gz_La h) : gz_La h' := H.of f.1 (congrArg Prod.snd f.2.1)
theorem fg.wr {h : gz_H} {i k : Nat} {v : Int32} (e : k = 2 + i ∨ (8 + 8 * i ≤ k ∧ k < 16 + 8 * i)) : fg h (uI h 86 k v) i := ⟨rfl, rfl, fun a j q => uI_ne (by omega)⟩
section
variable {h : gz_H} {T : gz_T} {E : gz_D}
theorem gb_up {i : Nat} {l : List Nat} {n : Nat} : gbits n (va_up E i (l, (E i).2)) = gbits n E := fo_cg fun j _ => by
  by_cases e : j = i
  · subst e; rw [up_at]
  · rw [up_ne e]
theorem mv_mg (V : MV h T E) {i : Nat} (hi : i < T.2.1) : mg h i (E i).1 := ⟨(V.bi i hi).2.2.2.2.1, V.mn i hi, fun k hk => V.fc i k hi hk⟩
theorem mv_up (V : MV h T E) {i : Nat} (hi : i < T.2.1) {h' : gz_H} {l : List Nat} (f : fg h h' i) (G : mg h' i l) (w : wd T (va_up E i (l, (E i).2))) : MV h' T (va_up E i (l, (E i).2)) := by
  obtain ⟨H, ws, d, ⟨b1, b2, b3, b4⟩, g, x⟩ := V
  have o := f.2.2
  have hb := ws.2.1
  refine ⟨f.la H, ws, w, ⟨by rw [o 85 1 (by omega)]; exact b1, by rw [o 85 3 (by omega)]; exact b2, fun k hk => by rw [o 87 k (by omega)]; exact b3 k hk, fun j hj => by rw [o 88 j (by omega), o 89 j (by omega), o 90 j (by omega)]; exact b4 j hj⟩, by rw [gb_up, o 86 (0 + 1) (by omega)]; exact g, fun j hj => ?_⟩
  by_cases e : j = i
  · subst e
    rw [up_at]
    exact ⟨by rw [Nat.zero_add]; exact G.2.1, fun k hk => by rw [Nat.zero_add]; exact G.2.2 k hk⟩
  · rw [up_ne e]
    have dl := (d j hj).1
    have dm := (ws.bi j hj).2.2.1
    exact ⟨by rw [o 86 _ (by omega)]; exact (x j hj).1, fun k hk => by rw [o 86 _ (by omega)]; exact (x j hj).2 k hk⟩
theorem mg_factOf (H : gz_La h) {i k : Nat} {l : List Nat} (G : mg h i l) (hi : i < 6) (hk : k < l.length) : fX9_factOf 85 (nI i) (nI k) h = some (nI (l.getD k 0), h) := by
  have := G.1
  have e := G.2.2 k hk
  unfold fX9_factOf fX9_factOf_0
  simp (disch := first | assumption | omega | trivial | rfl) only [ck_1, br_s, b2_s, bi_s, lt_d, bo_0, bo_1, lt_d, uI_1, uI_R, uI_L, uF_1, uF_R, uF_L, uL_1, uL_I, uL_R, uR_1, uR_I, uR_L, inb_uI, inb_uF, inb_uL, inb_uR, len_uI, len_uF, sh_uI, sh_uF, sh_uL, sh_uR, rf_0_0, rf_0_1, rf_0_2, rf_0_3, rf_0_4, rf_0_5, rf_0_6, rf_0_7, rf_0_8, rf_0_9, rf_0_12, rf_0_13, rf_0_14, rf_0_15, rf_0_16, rf_0_17, rf_1_1, rf_1_2, rf_10_1, rf_10_2, rf_18_0, rf_21_0, rf_23_0, rf_25_0, rf_79_0, rf_81_0, rf_83_0, rf_28_0, rf_28_1, rf_31_0, rf_33_0, rf_35_0, rf_37_0, rf_39_0, rf_41_0, rf_43_0, rf_43_1, rf_46_0, rf_48_0, rf_50_0, rf_52_0, rf_54_0, rf_56_0, rf_58_0, rf_58_1, rf_61_0, rf_63_0, rf_65_0, rf_67_0, rf_69_0, rf_71_0, rf_85_0, rf_85_2, rf_85_4, rf_85_5, rf_85_6, rf_85_7, rf_85_8, rf_85_9, rf_85_10, rf_85_15, rf_85_19, rf_85_21, rf_85_22, rf_85_23, rf_85_26, rf_85_27, rf_85_28, rf_2, rf_11, rf_30, rf_45, rf_60, rf_27, sgr_31, sgr_46, sgr_61, slr_79, in_2, in_9, ln_9, in_11, in_16, ln_16, in_19, ln_19, in_22, ln_22, in_24, ln_24, in_26, ln_26, in_27, in_29, ln_29, in_30, in_44, ln_44, in_45, in_59, ln_59, in_60, in_73, ln_73, in_74, ln_74, in_75, ln_75, in_76, ln_76, in_77, ln_77, in_78, ln_78, in_80, ln_80, in_82, ln_82, in_84, ln_84, in_86, ln_86, in_87, ln_87, in_88, ln_88, in_89, ln_89, in_90, ln_90, in_91, ln_91, in_92, ln_92, in_93, ln_93, in_94, ln_94, in_95, ln_95, in_96, ln_96, in_97, ln_97, in_98, ln_98, in_99, ln_99, in_100, ln_100, in_101, ln_101, in_102, ln_102, sh_0, sh_1, sh_10, sh_17, sh_18, sh_20, sh_21, sh_23, sh_25, sh_28, sh_43, sh_58, sh_79, sh_81, sh_83, sh_85, sgk_31, sgi_31, sgk_46, sgi_46, sgk_61, sgi_61, slk_79, sli_79, ini_rw, ini_tx, li_0, li_1, li_2, li_3, li_4, li_5, li_6, li_7, li_8, li_9, li_10, li_11, li_12, li_13, li_14, li_15, li_16, li_31, li_32, li_36, li_40, li_48, li_53, li_55, li_56, li_57, li_58, li_60, li_63, li_64, li_80, li_97, li_98, li_99, li_100, li_103, li_104, li_108, li_115, li_116, li_118, li_200, li_256, li_1000, li_2256, not_true_eq_false, not_false_eq_true, Bool.false_eq_true, if_true, if_false, Nat.or_zero, Nat.zero_or, pk_rem, nI_m31, nI_sl, nI_bt, nI_or, nI_sub', nI_n9, nI_9n, nI_n1, bo_n0, bo_n1, bo_if, nI_if, nI_if0, nI_if1, if_10, if_11, t_bits, t_bc, t_has, nI_clamp, nI_add, pk_mul, pk_sub, nI_eq, nI_leI, nI_ltI, if_pos, if_neg, uI_at, uI_to, uI_ne, uF_at, uF_ne, e]
theorem m_drop (H : gz_La h) {i : Nat} {l : List Nat} (G : mg h i l) (hi : i < 6) {a b : List Nat} {x : Nat} (e : l = a ++ x :: b) : ∃ h', fX9_drop 85 (nI i) (nI a.length) h = some ((), h') ∧ mg h' i (a ++ b) ∧ fg h h' i := by
  have hl : l.length = a.length + (b.length + 1) := by rw [e]; simp
  obtain ⟨G1, G2, G3⟩ := G
  unfold fX9_drop fX9_drop_0
  simp (disch := first | assumption | omega | trivial | rfl) only [ck_1, br_s, b2_s, bi_s, lt_d, bo_0, bo_1, lt_d, uI_1, uI_R, uI_L, uF_1, uF_R, uF_L, uL_1, uL_I, uL_R, uR_1, uR_I, uR_L, inb_uI, inb_uF, inb_uL, inb_uR, len_uI, len_uF, sh_uI, sh_uF, sh_uL, sh_uR, rf_0_0, rf_0_1, rf_0_2, rf_0_3, rf_0_4, rf_0_5, rf_0_6, rf_0_7, rf_0_8, rf_0_9, rf_0_12, rf_0_13, rf_0_14, rf_0_15, rf_0_16, rf_0_17, rf_1_1, rf_1_2, rf_10_1, rf_10_2, rf_18_0, rf_21_0, rf_23_0, rf_25_0, rf_79_0, rf_81_0, rf_83_0, rf_28_0, rf_28_1, rf_31_0, rf_33_0, rf_35_0, rf_37_0, rf_39_0, rf_41_0, rf_43_0, rf_43_1, rf_46_0, rf_48_0, rf_50_0, rf_52_0, rf_54_0, rf_56_0, rf_58_0, rf_58_1, rf_61_0, rf_63_0, rf_65_0, rf_67_0, rf_69_0, rf_71_0, rf_85_0, rf_85_2, rf_85_4, rf_85_5, rf_85_6, rf_85_7, rf_85_8, rf_85_9, rf_85_10, rf_85_15, rf_85_19, rf_85_21, rf_85_22, rf_85_23, rf_85_26, rf_85_27, rf_85_28, rf_2, rf_11, rf_30, rf_45, rf_60, rf_27, sgr_31, sgr_46, sgr_61, slr_79, in_2, in_9, ln_9, in_11, in_16, ln_16, in_19, ln_19, in_22, ln_22, in_24, ln_24, in_26, ln_26, in_27, in_29, ln_29, in_30, in_44, ln_44, in_45, in_59, ln_59, in_60, in_73, ln_73, in_74, ln_74, in_75, ln_75, in_76, ln_76, in_77, ln_77, in_78, ln_78, in_80, ln_80, in_82, ln_82, in_84, ln_84, in_86, ln_86, in_87, ln_87, in_88, ln_88, in_89, ln_89, in_90, ln_90, in_91, ln_91, in_92, ln_92, in_93, ln_93, in_94, ln_94, in_95, ln_95, in_96, ln_96, in_97, ln_97, in_98, ln_98, in_99, ln_99, in_100, ln_100, in_101, ln_101, in_102, ln_102, sh_0, sh_1, sh_10, sh_17, sh_18, sh_20, sh_21, sh_23, sh_25, sh_28, sh_43, sh_58, sh_79, sh_81, sh_83, sh_85, sgk_31, sgi_31, sgk_46, sgi_46, sgk_61, sgi_61, slk_79, sli_79, ini_rw, ini_tx, li_0, li_1, li_2, li_3, li_4, li_5, li_6, li_7, li_8, li_9, li_10, li_11, li_12, li_13, li_14, li_15, li_16, li_31, li_32, li_36, li_40, li_48, li_53, li_55, li_56, li_57, li_58, li_60, li_63, li_64, li_80, li_97, li_98, li_99, li_100, li_103, li_104, li_108, li_115, li_116, li_118, li_200, li_256, li_1000, li_2256, not_true_eq_false, not_false_eq_true, Bool.false_eq_true, if_true, if_false, Nat.or_zero, Nat.zero_or, pk_rem, nI_m31, nI_sl, nI_bt, nI_or, nI_sub', nI_n9, nI_9n, nI_n1, bo_n0, bo_n1, bo_if, nI_if, nI_if0, nI_if1, if_10, if_11, t_bits, t_bc, t_has, nI_clamp, nI_add, pk_mul, pk_sub, nI_eq, nI_leI, nI_ltI, if_pos, if_neg, uI_at, uI_to, uI_ne, uF_at, uF_ne, G2]
  have hfu : l.length - 1 < a.length + gz_fu := by show l.length - 1 < a.length + 100000; omega
  generalize gz_fu = fu at hfu ⊢
  refine lpr (fun m k (s : gz_H) => fX9_drop_14 m 85 (nI i) (nI k) s) (fun k s => a.length ≤ k ∧ fg h s i ∧ s.2.1 86 (2 + i) = nI (l.length - 1) ∧ ∀ q, q < l.length → s.2.1 86 (8 + 8 * i + q) = nI (if a.length ≤ q ∧ q < k then l.getD (q + 1) 0 else l.getD q 0)) (l.length - 1) (fun r => ∃ h', r = some ((), h') ∧ mg h' i (a ++ b) ∧ fg h h' i) ?_ ?_ fu a.length _ (by omega) hfu ⟨Nat.le_refl _, fg.wr (Or.inl rfl), uI_at, fun q hq => ?_⟩
  · intro m s ⟨_, f1, e1, e2⟩
    have H1 := f1.la H
    refine ⟨s, ?_, ⟨by simp; omega, by rw [e1]; congr 1; simp; omega, fun q hq => ?_⟩, f1⟩
    · rw [fX9_drop_14]
      simp (disch := first | assumption | omega | trivial | rfl) only [ck_1, br_s, b2_s, bi_s, lt_d, bo_0, bo_1, lt_d, uI_1, uI_R, uI_L, uF_1, uF_R, uF_L, uL_1, uL_I, uL_R, uR_1, uR_I, uR_L, inb_uI, inb_uF, inb_uL, inb_uR, len_uI, len_uF, sh_uI, sh_uF, sh_uL, sh_uR, rf_0_0, rf_0_1, rf_0_2, rf_0_3, rf_0_4, rf_0_5, rf_0_6, rf_0_7, rf_0_8, rf_0_9, rf_0_12, rf_0_13, rf_0_14, rf_0_15, rf_0_16, rf_0_17, rf_1_1, rf_1_2, rf_10_1, rf_10_2, rf_18_0, rf_21_0, rf_23_0, rf_25_0, rf_79_0, rf_81_0, rf_83_0, rf_28_0, rf_28_1, rf_31_0, rf_33_0, rf_35_0, rf_37_0, rf_39_0, rf_41_0, rf_43_0, rf_43_1, rf_46_0, rf_48_0, rf_50_0, rf_52_0, rf_54_0, rf_56_0, rf_58_0, rf_58_1, rf_61_0, rf_63_0, rf_65_0, rf_67_0, rf_69_0, rf_71_0, rf_85_0, rf_85_2, rf_85_4, rf_85_5, rf_85_6, rf_85_7, rf_85_8, rf_85_9, rf_85_10, rf_85_15, rf_85_19, rf_85_21, rf_85_22, rf_85_23, rf_85_26, rf_85_27, rf_85_28, rf_2, rf_11, rf_30, rf_45, rf_60, rf_27, sgr_31, sgr_46, sgr_61, slr_79, in_2, in_9, ln_9, in_11, in_16, ln_16, in_19, ln_19, in_22, ln_22, in_24, ln_24, in_26, ln_26, in_27, in_29, ln_29, in_30, in_44, ln_44, in_45, in_59, ln_59, in_60, in_73, ln_73, in_74, ln_74, in_75, ln_75, in_76, ln_76, in_77, ln_77, in_78, ln_78, in_80, ln_80, in_82, ln_82, in_84, ln_84, in_86, ln_86, in_87, ln_87, in_88, ln_88, in_89, ln_89, in_90, ln_90, in_91, ln_91, in_92, ln_92, in_93, ln_93, in_94, ln_94, in_95, ln_95, in_96, ln_96, in_97, ln_97, in_98, ln_98, in_99, ln_99, in_100, ln_100, in_101, ln_101, in_102, ln_102, sh_0, sh_1, sh_10, sh_17, sh_18, sh_20, sh_21, sh_23, sh_25, sh_28, sh_43, sh_58, sh_79, sh_81, sh_83, sh_85, sgk_31, sgi_31, sgk_46, sgi_46, sgk_61, sgi_61, slk_79, sli_79, ini_rw, ini_tx, li_0, li_1, li_2, li_3, li_4, li_5, li_6, li_7, li_8, li_9, li_10, li_11, li_12, li_13, li_14, li_15, li_16, li_31, li_32, li_36, li_40, li_48, li_53, li_55, li_56, li_57, li_58, li_60, li_63, li_64, li_80, li_97, li_98, li_99, li_100, li_103, li_104, li_108, li_115, li_116, li_118, li_200, li_256, li_1000, li_2256, not_true_eq_false, not_false_eq_true, Bool.false_eq_true, if_true, if_false, Nat.or_zero, Nat.zero_or, pk_rem, nI_m31, nI_sl, nI_bt, nI_or, nI_sub', nI_n9, nI_9n, nI_n1, bo_n0, bo_n1, bo_if, nI_if, nI_if0, nI_if1, if_10, if_11, t_bits, t_bc, t_has, nI_clamp, nI_add, pk_mul, pk_sub, nI_eq, nI_leI, nI_ltI, if_pos, if_neg, uI_at, uI_to, uI_ne, uF_at, uF_ne, e1]
    · have hq2 : q < a.length + b.length := by simpa using hq
      rw [e2 q (by omega)]
      by_cases c : a.length ≤ q
      · rw [if_pos ⟨c, by omega⟩, e, ld_ge (by omega), ld_ge c, show q + 1 - a.length = (q - a.length) + 1 by omega]
        rfl
      · rw [if_neg (fun z => c z.1), e, ld_lt (show q < a.length by omega), ld_lt (show q < a.length by omega)]
  · intro m k s hk ⟨ck, f1, e1, e2⟩
    have H1 := f1.la H
    · refine ⟨uI s 86 (8 + 8 * i + k) (nI (l.getD (k + 1) 0)), ⟨by omega, f1.tr (fg.wr (by omega)), by rw [uI_ne (by omega)]; exact e1, fun q hq => ?_⟩, ?_⟩
      · by_cases c : q = k
        · subst c
          rw [uI_at, if_pos ⟨ck, by omega⟩]
        · rw [uI_ne (by omega), e2 q hq]
          by_cases c2 : a.length ≤ q ∧ q < k
          · rw [if_pos c2, if_pos (by omega)]
          · rw [if_neg c2, if_neg (by omega)]
      · have e3 := e2 (k + 1) (by omega)
        rw [if_neg (by omega)] at e3
        have e4 : fX9_factOf 85 (nI i) (nI (k + 1)) s = some (nI (l.getD (k + 1) 0), s) := by
          unfold fX9_factOf fX9_factOf_0
          simp (disch := first | assumption | omega | trivial | rfl) only [ck_1, br_s, b2_s, bi_s, lt_d, bo_0, bo_1, lt_d, uI_1, uI_R, uI_L, uF_1, uF_R, uF_L, uL_1, uL_I, uL_R, uR_1, uR_I, uR_L, inb_uI, inb_uF, inb_uL, inb_uR, len_uI, len_uF, sh_uI, sh_uF, sh_uL, sh_uR, rf_0_0, rf_0_1, rf_0_2, rf_0_3, rf_0_4, rf_0_5, rf_0_6, rf_0_7, rf_0_8, rf_0_9, rf_0_12, rf_0_13, rf_0_14, rf_0_15, rf_0_16, rf_0_17, rf_1_1, rf_1_2, rf_10_1, rf_10_2, rf_18_0, rf_21_0, rf_23_0, rf_25_0, rf_79_0, rf_81_0, rf_83_0, rf_28_0, rf_28_1, rf_31_0, rf_33_0, rf_35_0, rf_37_0, rf_39_0, rf_41_0, rf_43_0, rf_43_1, rf_46_0, rf_48_0, rf_50_0, rf_52_0, rf_54_0, rf_56_0, rf_58_0, rf_58_1, rf_61_0, rf_63_0, rf_65_0, rf_67_0, rf_69_0, rf_71_0, rf_85_0, rf_85_2, rf_85_4, rf_85_5, rf_85_6, rf_85_7, rf_85_8, rf_85_9, rf_85_10, rf_85_15, rf_85_19, rf_85_21, rf_85_22, rf_85_23, rf_85_26, rf_85_27, rf_85_28, rf_2, rf_11, rf_30, rf_45, rf_60, rf_27, sgr_31, sgr_46, sgr_61, slr_79, in_2, in_9, ln_9, in_11, in_16, ln_16, in_19, ln_19, in_22, ln_22, in_24, ln_24, in_26, ln_26, in_27, in_29, ln_29, in_30, in_44, ln_44, in_45, in_59, ln_59, in_60, in_73, ln_73, in_74, ln_74, in_75, ln_75, in_76, ln_76, in_77, ln_77, in_78, ln_78, in_80, ln_80, in_82, ln_82, in_84, ln_84, in_86, ln_86, in_87, ln_87, in_88, ln_88, in_89, ln_89, in_90, ln_90, in_91, ln_91, in_92, ln_92, in_93, ln_93, in_94, ln_94, in_95, ln_95, in_96, ln_96, in_97, ln_97, in_98, ln_98, in_99, ln_99, in_100, ln_100, in_101, ln_101, in_102, ln_102, sh_0, sh_1, sh_10, sh_17, sh_18, sh_20, sh_21, sh_23, sh_25, sh_28, sh_43, sh_58, sh_79, sh_81, sh_83, sh_85, sgk_31, sgi_31, sgk_46, sgi_46, sgk_61, sgi_61, slk_79, sli_79, ini_rw, ini_tx, li_0, li_1, li_2, li_3, li_4, li_5, li_6, li_7, li_8, li_9, li_10, li_11, li_12, li_13, li_14, li_15, li_16, li_31, li_32, li_36, li_40, li_48, li_53, li_55, li_56, li_57, li_58, li_60, li_63, li_64, li_80, li_97, li_98, li_99, li_100, li_103, li_104, li_108, li_115, li_116, li_118, li_200, li_256, li_1000, li_2256, not_true_eq_false, not_false_eq_true, Bool.false_eq_true, if_true, if_false, Nat.or_zero, Nat.zero_or, pk_rem, nI_m31, nI_sl, nI_bt, nI_or, nI_sub', nI_n9, nI_9n, nI_n1, bo_n0, bo_n1, bo_if, nI_if, nI_if0, nI_if1, if_10, if_11, t_bits, t_bc, t_has, nI_clamp, nI_add, pk_mul, pk_sub, nI_eq, nI_leI, nI_ltI, if_pos, if_neg, uI_at, uI_to, uI_ne, uF_at, uF_ne, e3]
        rw [fX9_drop_14]
        simp (disch := first | assumption | omega | trivial | rfl) only [ck_1, br_s, b2_s, bi_s, lt_d, bo_0, bo_1, lt_d, uI_1, uI_R, uI_L, uF_1, uF_R, uF_L, uL_1, uL_I, uL_R, uR_1, uR_I, uR_L, inb_uI, inb_uF, inb_uL, inb_uR, len_uI, len_uF, sh_uI, sh_uF, sh_uL, sh_uR, rf_0_0, rf_0_1, rf_0_2, rf_0_3, rf_0_4, rf_0_5, rf_0_6, rf_0_7, rf_0_8, rf_0_9, rf_0_12, rf_0_13, rf_0_14, rf_0_15, rf_0_16, rf_0_17, rf_1_1, rf_1_2, rf_10_1, rf_10_2, rf_18_0, rf_21_0, rf_23_0, rf_25_0, rf_79_0, rf_81_0, rf_83_0, rf_28_0, rf_28_1, rf_31_0, rf_33_0, rf_35_0, rf_37_0, rf_39_0, rf_41_0, rf_43_0, rf_43_1, rf_46_0, rf_48_0, rf_50_0, rf_52_0, rf_54_0, rf_56_0, rf_58_0, rf_58_1, rf_61_0, rf_63_0, rf_65_0, rf_67_0, rf_69_0, rf_71_0, rf_85_0, rf_85_2, rf_85_4, rf_85_5, rf_85_6, rf_85_7, rf_85_8, rf_85_9, rf_85_10, rf_85_15, rf_85_19, rf_85_21, rf_85_22, rf_85_23, rf_85_26, rf_85_27, rf_85_28, rf_2, rf_11, rf_30, rf_45, rf_60, rf_27, sgr_31, sgr_46, sgr_61, slr_79, in_2, in_9, ln_9, in_11, in_16, ln_16, in_19, ln_19, in_22, ln_22, in_24, ln_24, in_26, ln_26, in_27, in_29, ln_29, in_30, in_44, ln_44, in_45, in_59, ln_59, in_60, in_73, ln_73, in_74, ln_74, in_75, ln_75, in_76, ln_76, in_77, ln_77, in_78, ln_78, in_80, ln_80, in_82, ln_82, in_84, ln_84, in_86, ln_86, in_87, ln_87, in_88, ln_88, in_89, ln_89, in_90, ln_90, in_91, ln_91, in_92, ln_92, in_93, ln_93, in_94, ln_94, in_95, ln_95, in_96, ln_96, in_97, ln_97, in_98, ln_98, in_99, ln_99, in_100, ln_100, in_101, ln_101, in_102, ln_102, sh_0, sh_1, sh_10, sh_17, sh_18, sh_20, sh_21, sh_23, sh_25, sh_28, sh_43, sh_58, sh_79, sh_81, sh_83, sh_85, sgk_31, sgi_31, sgk_46, sgi_46, sgk_61, sgi_61, slk_79, sli_79, ini_rw, ini_tx, li_0, li_1, li_2, li_3, li_4, li_5, li_6, li_7, li_8, li_9, li_10, li_11, li_12, li_13, li_14, li_15, li_16, li_31, li_32, li_36, li_40, li_48, li_53, li_55, li_56, li_57, li_58, li_60, li_63, li_64, li_80, li_97, li_98, li_99, li_100, li_103, li_104, li_108, li_115, li_116, li_118, li_200, li_256, li_1000, li_2256, not_true_eq_false, not_false_eq_true, Bool.false_eq_true, if_true, if_false, Nat.or_zero, Nat.zero_or, pk_rem, nI_m31, nI_sl, nI_bt, nI_or, nI_sub', nI_n9, nI_9n, nI_n1, bo_n0, bo_n1, bo_if, nI_if, nI_if0, nI_if1, if_10, if_11, t_bits, t_bc, t_has, nI_clamp, nI_add, pk_mul, pk_sub, nI_eq, nI_leI, nI_ltI, if_pos, if_neg, uI_at, uI_to, uI_ne, uF_at, uF_ne, e1, e4]
  · rw [uI_ne (by omega), if_neg (by omega)]
    exact G3 q hq
theorem m_put (H : gz_La h) {i : Nat} {l : List Nat} (G : mg h i l) (hi : i < 6) (hl : l.length < 8) (f : Nat) (y : Int32) : ∃ h', fX9_doGive_96 85 (nI i) (nI f) y h = some (y, h') ∧ mg h' i (l ++ [f]) ∧ fg h h' i := by
  obtain ⟨G1, G2, G3⟩ := G
  refine ⟨uI (uI h 86 (8 + 8 * i + l.length) (nI f)) 86 (2 + i) (nI (l.length + 1)), ?_, ⟨by simp; omega, by rw [uI_at]; simp, fun k hk => ?_⟩, (fg.wr (by omega)).tr (fg.wr (by omega))⟩
  · unfold fX9_doGive_96
    simp (disch := first | assumption | omega | trivial | rfl) only [ck_1, br_s, b2_s, bi_s, lt_d, bo_0, bo_1, lt_d, uI_1, uI_R, uI_L, uF_1, uF_R, uF_L, uL_1, uL_I, uL_R, uR_1, uR_I, uR_L, inb_uI, inb_uF, inb_uL, inb_uR, len_uI, len_uF, sh_uI, sh_uF, sh_uL, sh_uR, rf_0_0, rf_0_1, rf_0_2, rf_0_3, rf_0_4, rf_0_5, rf_0_6, rf_0_7, rf_0_8, rf_0_9, rf_0_12, rf_0_13, rf_0_14, rf_0_15, rf_0_16, rf_0_17, rf_1_1, rf_1_2, rf_10_1, rf_10_2, rf_18_0, rf_21_0, rf_23_0, rf_25_0, rf_79_0, rf_81_0, rf_83_0, rf_28_0, rf_28_1, rf_31_0, rf_33_0, rf_35_0, rf_37_0, rf_39_0, rf_41_0, rf_43_0, rf_43_1, rf_46_0, rf_48_0, rf_50_0, rf_52_0, rf_54_0, rf_56_0, rf_58_0, rf_58_1, rf_61_0, rf_63_0, rf_65_0, rf_67_0, rf_69_0, rf_71_0, rf_85_0, rf_85_2, rf_85_4, rf_85_5, rf_85_6, rf_85_7, rf_85_8, rf_85_9, rf_85_10, rf_85_15, rf_85_19, rf_85_21, rf_85_22, rf_85_23, rf_85_26, rf_85_27, rf_85_28, rf_2, rf_11, rf_30, rf_45, rf_60, rf_27, sgr_31, sgr_46, sgr_61, slr_79, in_2, in_9, ln_9, in_11, in_16, ln_16, in_19, ln_19, in_22, ln_22, in_24, ln_24, in_26, ln_26, in_27, in_29, ln_29, in_30, in_44, ln_44, in_45, in_59, ln_59, in_60, in_73, ln_73, in_74, ln_74, in_75, ln_75, in_76, ln_76, in_77, ln_77, in_78, ln_78, in_80, ln_80, in_82, ln_82, in_84, ln_84, in_86, ln_86, in_87, ln_87, in_88, ln_88, in_89, ln_89, in_90, ln_90, in_91, ln_91, in_92, ln_92, in_93, ln_93, in_94, ln_94, in_95, ln_95, in_96, ln_96, in_97, ln_97, in_98, ln_98, in_99, ln_99, in_100, ln_100, in_101, ln_101, in_102, ln_102, sh_0, sh_1, sh_10, sh_17, sh_18, sh_20, sh_21, sh_23, sh_25, sh_28, sh_43, sh_58, sh_79, sh_81, sh_83, sh_85, sgk_31, sgi_31, sgk_46, sgi_46, sgk_61, sgi_61, slk_79, sli_79, ini_rw, ini_tx, li_0, li_1, li_2, li_3, li_4, li_5, li_6, li_7, li_8, li_9, li_10, li_11, li_12, li_13, li_14, li_15, li_16, li_31, li_32, li_36, li_40, li_48, li_53, li_55, li_56, li_57, li_58, li_60, li_63, li_64, li_80, li_97, li_98, li_99, li_100, li_103, li_104, li_108, li_115, li_116, li_118, li_200, li_256, li_1000, li_2256, not_true_eq_false, not_false_eq_true, Bool.false_eq_true, if_true, if_false, Nat.or_zero, Nat.zero_or, pk_rem, nI_m31, nI_sl, nI_bt, nI_or, nI_sub', nI_n9, nI_9n, nI_n1, bo_n0, bo_n1, bo_if, nI_if, nI_if0, nI_if1, if_10, if_11, t_bits, t_bc, t_has, nI_clamp, nI_add, pk_mul, pk_sub, nI_eq, nI_leI, nI_ltI, if_pos, if_neg, uI_at, uI_to, uI_ne, uF_at, uF_ne, G2]
  · have hk2 : k < l.length + 1 := by simpa using hk
    rw [uI_ne (by omega)]
    by_cases c : k = l.length
    · rw [c, uI_at, ld_app]
    · rw [uI_ne (by omega), G3 k (by omega), ld_lt (by omega)]
def ia (f : Nat) (l : List Nat) : Nat → Int32
  | 0 => -9
  | k + 1 => if l.getD k 0 = f then nI k else ia f l k
theorem ia_no {f : Nat} {l : List Nat} : ∀ k, (∀ j, j < k → l.getD j 0 ≠ f) → ia f l k = -9 := by
  intro k
  induction k with
  | zero => intro _; rfl
  | succ k ih => intro h; rw [ia, if_neg (h k (by omega))]; exact ih fun j hj => h j (by omega)
theorem ia_at {f i : Nat} {l : List Nat} (e : l.getD i 0 = f) : ∀ k, i < k → (∀ j, i < j → j < k → l.getD j 0 ≠ f) → ia f l k = nI i := by
  intro k
  induction k with
  | zero => intro h; omega
  | succ k ih =>
    intro h1 h2
    rw [ia]
    by_cases c : i = k
    · subst c; rw [if_pos e]
    · rw [if_neg (h2 k (by omega) (by omega))]
      exact ih (by omega) fun j h3 h4 => h2 j h3 (by omega)
theorem m_take (H : gz_La h) {i mo f : Nat} {l : List Nat} (G : mg h i l) (hi : i < 6) (hm : h.2.1 89 i = nI mo) (h1 : 1 ≤ mo) (hmo : mo ≤ 8) (hlm : l.length ≤ mo) (nd : l.Nodup) (hb : ∀ x ∈ l, x < 8) (hf : f < 8) : ∃ h', fX9_doGive 85 (nI i) (nI f) h = some (tkA mo l f, h') ∧ mg h' i (tk mo l f) ∧ fg h h' i := by
  have G0 := G
  obtain ⟨G1, G2, G3⟩ := G
  unfold fX9_doGive fX9_doGive_0
  have hfu : l.length < 0 + gz_fu := by show l.length < 0 + 100000; omega
  generalize gz_fu = fu at hfu ⊢
  have lpk := fun r fin => lp (fun m k (x : Int32) => fX9_doGive_10 m 85 (nI i) (nI f) (-9) x (nI k) h) (fun k => ia f l k) l.length r fin (by
    intro m k hk
    have hx := hb _ (ld_mem hk)
    have e4 := mg_factOf H G0 hi hk
    rw [fX9_doGive_10, ck_t (sh_85 H), rf_85_0 H, br_s, show (2 : Int32) = nI 2 from rfl, nI_add, ck_t (in_86 H (by omega)), nI_clamp (by omega), G2, if_neg (nI_ge hk (by omega)), e4, b2_s, ia]
    unfold fX9_doGive_41
    rw [nI_1]
    by_cases c : l.getD k 0 = f
    · rw [if_pos (by rw [c]), if_pos c]
    · rw [if_neg (fun z => c ((nI_eq (by omega) (by omega)).mp z)), if_neg c]) fu 0 (by omega) hfu
  have st : ∀ m x, fX9_doGive_10 (m + 1) 85 (nI i) (nI f) (-9) x (nI l.length) h = if x = (-9 : Int32) then (if nI l.length = nI mo then gz_b2 (fX9_factOf 85 (nI i) (0 : Int32) h) (fun y_10 h_9 => gz_ck (gz_sh h_9 85 9 29) (gz_b2 (fX9_drop 85 (nI i) (0 : Int32) h_9) fun _ h_11 => fX9_doGive_96 85 (nI i) (nI f) y_10 h_11)) else fX9_doGive_96 85 (nI i) (nI f) (-9) h) else gz_b2 (fX9_drop 85 (nI i) x h) (fun _ h_14 => fX9_doGive_96 85 (nI i) (nI f) (-9) h_14) := by
    intro m x
    rw [fX9_doGive_10, ck_t (sh_85 H), rf_85_0 H, br_s, show (2 : Int32) = nI 2 from rfl, nI_add, ck_t (in_86 H (by omega)), nI_clamp (by omega), G2, if_pos (nI_le (Nat.le_refl _) (by omega)), rf_85_5 H, br_s, ck_t (in_89 H hi), nI_clamp (by omega), hm]
  by_cases e : f ∈ l
  · obtain ⟨a, b, e1, e2⟩ := List.eq_append_cons_of_mem e
    have nb : f ∉ b := by
      rw [e1] at nd
      have := (List.nodup_append.mp nd).2.1
      exact (List.nodup_cons.mp this).1
    have hl : l.length = a.length + (b.length + 1) := by rw [e1]; simp
    have eia : ia f l l.length = nI a.length := ia_at (by rw [e1]; exact ld_app) _ (by omega) (fun j h3 h4 z => nb (by
      rw [e1, ld_ge (by omega), show j - a.length = (j - a.length - 1) + 1 by omega] at z
      have z2 : b.getD (j - a.length - 1) 0 = f := z
      rw [← z2]
      exact ld_mem (by omega)))
    obtain ⟨h1, d1, d2, d3⟩ := m_drop H G0 hi e1
    obtain ⟨h2, p1, p2, p3⟩ := m_put (d3.la H) d2 hi (by simp; omega) f (-9)
    refine ⟨h2, lpk _ ?_, ?_, d3.tr p3⟩
    · intro m
      rw [eia, st, if_neg (show ¬ nI a.length = (-9 : Int32) from fun z => (nI_n9 (k := a.length) (by omega)).mp z), d1, b2_s, p1]
      unfold tkA
      rw [if_pos e]
    · rw [e1, tk_at e2]
      exact p2
  · have eia : ia f l l.length = -9 := ia_no _ (fun j hj z => e (by rw [← z]; exact ld_mem hj))
    by_cases c : mo ≤ l.length
    · cases hl : l with
      | nil => rw [hl] at c; simp at c; omega
      | cons x b =>
        have hl2 : l.length = b.length + 1 := by rw [hl]; simp
        obtain ⟨h1, d1, d2, d3⟩ := m_drop H G0 hi (a := []) (x := x) (b := b) hl
        obtain ⟨h2, p1, p2, p3⟩ := m_put (d3.la H) d2 hi (by simp; omega) f (nI x)
        have e4 := mg_factOf H G0 hi (k := 0) (by omega)
        rw [hl] at e4
        have e4' : fX9_factOf 85 (nI i) (0 : Int32) h = some (nI x, h) := e4
        have d1' : fX9_drop 85 (nI i) (0 : Int32) h = some ((), h1) := d1
        refine ⟨h2, ?_, ?_, d3.tr p3⟩
        · have := lpk (some (nI x, h2)) (by
            intro m
            rw [eia, st, if_pos rfl, if_pos (by rw [show l.length = mo by omega]), e4', b2_s, ck_t (sh_85 H), d1', b2_s, p1])
          rw [← hl]
          unfold tkA
          rw [if_neg e, if_pos c, hl]
          exact this
        · rw [hl] at e c
          rw [tk_full e (by simpa using c)]
          exact p2
    · obtain ⟨h2, p1, p2, p3⟩ := m_put H G0 hi (by omega) f (-9)
      refine ⟨h2, lpk _ ?_, ?_, p3⟩
      · intro m
        rw [eia, st, if_pos rfl, if_neg (fun z => c (by have := (nI_eq (by omega) (by omega)).mp z; omega)), p1]
        unfold tkA
        rw [if_neg e, if_neg c]
      · rw [tk_add e c]
        exact p2
theorem m_takeE (V : MV h T E) {i f : Nat} (hi : i < T.2.1) (hf : f < T.1) (al : (E i).2 = false) : ∃ h', fX9_doGive 85 (nI i) (nI f) h = some (tkA (T.2.2.2.2.1 i) (E i).1 f, h') ∧ MV h' T (va_up E i (tk (T.2.2.2.2.1 i) (E i).1 f, (E i).2)) ∧ fm h h' := by
  have b := V.b
  have bi := V.bi i hi
  obtain ⟨h', e, G, fr⟩ := m_take V.H (mv_mg V hi) (by omega) (V.mo i hi) bi.2.1 bi.2.2.1 bi.2.2.2.2.2 (V.2.2.1 i hi).2.1 (fun x hx => (wd.bf V.2.1 V.2.2.1 i hi hx).2) (f := f) (by omega)
  exact ⟨h', e, mv_up V hi fr G (wd_up V.2.2.1 (fun _ => gd_tk V.2.1 hi hf (V.2.2.1.gd hi)) (lv_e al)), fr.fm (by omega)⟩
theorem m_fright (V : MV h T E) {i : Nat} (hi : i < T.2.1) (al : (E i).2 = false) : ∃ h', fX9_doFright 85 (nI i) h = some (nw (E i).1, h') ∧ MV h' T (va_up E i ((E i).1.dropLast, (E i).2)) ∧ fm h h' := by
  have H := V.H
  have b := V.b
  have bi := V.bi i hi
  have g := V.2.2.1.gd hi
  have w : wd T (va_up E i ((E i).1.dropLast, (E i).2)) := wd_up V.2.2.1 (fun _ => ⟨by have := g.1; simp; omega, g.2.1.sublist (List.dropLast_sublist _), fun f hf => g.2.2 f (List.dropLast_subset _ hf)⟩) (lv_e al)
  unfold fX9_doFright fX9_doFright_0 fX9_doFright_27
  rcases List.eq_nil_or_concat (E i).1 with e | ⟨a, f, e⟩
  · have e0 : (E i).1.length = 0 := by rw [e]; rfl
    refine ⟨uI h 86 (2 + i) (nI 0), ?_, ?_, (fg.wr (Or.inl rfl)).fm (by omega)⟩
    · simp (disch := first | assumption | omega | trivial | rfl) only [ck_1, br_s, b2_s, bi_s, lt_d, bo_0, bo_1, lt_d, uI_1, uI_R, uI_L, uF_1, uF_R, uF_L, uL_1, uL_I, uL_R, uR_1, uR_I, uR_L, inb_uI, inb_uF, inb_uL, inb_uR, len_uI, len_uF, sh_uI, sh_uF, sh_uL, sh_uR, rf_0_0, rf_0_1, rf_0_2, rf_0_3, rf_0_4, rf_0_5, rf_0_6, rf_0_7, rf_0_8, rf_0_9, rf_0_12, rf_0_13, rf_0_14, rf_0_15, rf_0_16, rf_0_17, rf_1_1, rf_1_2, rf_10_1, rf_10_2, rf_18_0, rf_21_0, rf_23_0, rf_25_0, rf_79_0, rf_81_0, rf_83_0, rf_28_0, rf_28_1, rf_31_0, rf_33_0, rf_35_0, rf_37_0, rf_39_0, rf_41_0, rf_43_0, rf_43_1, rf_46_0, rf_48_0, rf_50_0, rf_52_0, rf_54_0, rf_56_0, rf_58_0, rf_58_1, rf_61_0, rf_63_0, rf_65_0, rf_67_0, rf_69_0, rf_71_0, rf_85_0, rf_85_2, rf_85_4, rf_85_5, rf_85_6, rf_85_7, rf_85_8, rf_85_9, rf_85_10, rf_85_15, rf_85_19, rf_85_21, rf_85_22, rf_85_23, rf_85_26, rf_85_27, rf_85_28, rf_2, rf_11, rf_30, rf_45, rf_60, rf_27, sgr_31, sgr_46, sgr_61, slr_79, in_2, in_9, ln_9, in_11, in_16, ln_16, in_19, ln_19, in_22, ln_22, in_24, ln_24, in_26, ln_26, in_27, in_29, ln_29, in_30, in_44, ln_44, in_45, in_59, ln_59, in_60, in_73, ln_73, in_74, ln_74, in_75, ln_75, in_76, ln_76, in_77, ln_77, in_78, ln_78, in_80, ln_80, in_82, ln_82, in_84, ln_84, in_86, ln_86, in_87, ln_87, in_88, ln_88, in_89, ln_89, in_90, ln_90, in_91, ln_91, in_92, ln_92, in_93, ln_93, in_94, ln_94, in_95, ln_95, in_96, ln_96, in_97, ln_97, in_98, ln_98, in_99, ln_99, in_100, ln_100, in_101, ln_101, in_102, ln_102, sh_0, sh_1, sh_10, sh_17, sh_18, sh_20, sh_21, sh_23, sh_25, sh_28, sh_43, sh_58, sh_79, sh_81, sh_83, sh_85, sgk_31, sgi_31, sgk_46, sgi_46, sgk_61, sgi_61, slk_79, sli_79, ini_rw, ini_tx, li_0, li_1, li_2, li_3, li_4, li_5, li_6, li_7, li_8, li_9, li_10, li_11, li_12, li_13, li_14, li_15, li_16, li_31, li_32, li_36, li_40, li_48, li_53, li_55, li_56, li_57, li_58, li_60, li_63, li_64, li_80, li_97, li_98, li_99, li_100, li_103, li_104, li_108, li_115, li_116, li_118, li_200, li_256, li_1000, li_2256, not_true_eq_false, not_false_eq_true, Bool.false_eq_true, if_true, if_false, Nat.or_zero, Nat.zero_or, pk_rem, nI_m31, nI_sl, nI_bt, nI_or, nI_sub', nI_n9, nI_9n, nI_n1, bo_n0, bo_n1, bo_if, nI_if, nI_if0, nI_if1, if_10, if_11, t_bits, t_bc, t_has, nI_clamp, nI_add, pk_mul, pk_sub, nI_eq, nI_leI, nI_ltI, if_pos, if_neg, uI_at, uI_to, uI_ne, uF_at, uF_ne, V.mn, e0, Nat.sub_self]
      rw [e]; rfl
    · refine mv_up V hi (fg.wr (Or.inl rfl)) ⟨by simp; omega, ?_, fun k hk => absurd hk (by simp; omega)⟩ w
      rw [uI_at, e]; rfl
  · rw [List.concat_eq_append] at e
    have e0 : (E i).1.length = a.length + 1 := by rw [e]; simp
    have f1 : fg h (uI h 86 (2 + i) (nI a.length)) i := fg.wr (Or.inl rfl)
    have e5 := V.fc i a.length hi (by omega)
    have e6 : (E i).1.getD a.length 0 = f := by rw [e]; exact ld_app
    rw [e6] at e5
    refine ⟨uI h 86 (2 + i) (nI a.length), ?_, ?_, f1.fm (by omega)⟩
    · unfold fX9_factOf fX9_factOf_0
      simp (disch := first | assumption | omega | trivial | rfl) only [ck_1, br_s, b2_s, bi_s, lt_d, bo_0, bo_1, lt_d, uI_1, uI_R, uI_L, uF_1, uF_R, uF_L, uL_1, uL_I, uL_R, uR_1, uR_I, uR_L, inb_uI, inb_uF, inb_uL, inb_uR, len_uI, len_uF, sh_uI, sh_uF, sh_uL, sh_uR, rf_0_0, rf_0_1, rf_0_2, rf_0_3, rf_0_4, rf_0_5, rf_0_6, rf_0_7, rf_0_8, rf_0_9, rf_0_12, rf_0_13, rf_0_14, rf_0_15, rf_0_16, rf_0_17, rf_1_1, rf_1_2, rf_10_1, rf_10_2, rf_18_0, rf_21_0, rf_23_0, rf_25_0, rf_79_0, rf_81_0, rf_83_0, rf_28_0, rf_28_1, rf_31_0, rf_33_0, rf_35_0, rf_37_0, rf_39_0, rf_41_0, rf_43_0, rf_43_1, rf_46_0, rf_48_0, rf_50_0, rf_52_0, rf_54_0, rf_56_0, rf_58_0, rf_58_1, rf_61_0, rf_63_0, rf_65_0, rf_67_0, rf_69_0, rf_71_0, rf_85_0, rf_85_2, rf_85_4, rf_85_5, rf_85_6, rf_85_7, rf_85_8, rf_85_9, rf_85_10, rf_85_15, rf_85_19, rf_85_21, rf_85_22, rf_85_23, rf_85_26, rf_85_27, rf_85_28, rf_2, rf_11, rf_30, rf_45, rf_60, rf_27, sgr_31, sgr_46, sgr_61, slr_79, in_2, in_9, ln_9, in_11, in_16, ln_16, in_19, ln_19, in_22, ln_22, in_24, ln_24, in_26, ln_26, in_27, in_29, ln_29, in_30, in_44, ln_44, in_45, in_59, ln_59, in_60, in_73, ln_73, in_74, ln_74, in_75, ln_75, in_76, ln_76, in_77, ln_77, in_78, ln_78, in_80, ln_80, in_82, ln_82, in_84, ln_84, in_86, ln_86, in_87, ln_87, in_88, ln_88, in_89, ln_89, in_90, ln_90, in_91, ln_91, in_92, ln_92, in_93, ln_93, in_94, ln_94, in_95, ln_95, in_96, ln_96, in_97, ln_97, in_98, ln_98, in_99, ln_99, in_100, ln_100, in_101, ln_101, in_102, ln_102, sh_0, sh_1, sh_10, sh_17, sh_18, sh_20, sh_21, sh_23, sh_25, sh_28, sh_43, sh_58, sh_79, sh_81, sh_83, sh_85, sgk_31, sgi_31, sgk_46, sgi_46, sgk_61, sgi_61, slk_79, sli_79, ini_rw, ini_tx, li_0, li_1, li_2, li_3, li_4, li_5, li_6, li_7, li_8, li_9, li_10, li_11, li_12, li_13, li_14, li_15, li_16, li_31, li_32, li_36, li_40, li_48, li_53, li_55, li_56, li_57, li_58, li_60, li_63, li_64, li_80, li_97, li_98, li_99, li_100, li_103, li_104, li_108, li_115, li_116, li_118, li_200, li_256, li_1000, li_2256, not_true_eq_false, not_false_eq_true, Bool.false_eq_true, if_true, if_false, Nat.or_zero, Nat.zero_or, pk_rem, nI_m31, nI_sl, nI_bt, nI_or, nI_sub', nI_n9, nI_9n, nI_n1, bo_n0, bo_n1, bo_if, nI_if, nI_if0, nI_if1, if_10, if_11, t_bits, t_bc, t_has, nI_clamp, nI_add, pk_mul, pk_sub, nI_eq, nI_leI, nI_ltI, if_pos, if_neg, uI_at, uI_to, uI_ne, uF_at, uF_ne, V.mn, e0, Nat.add_sub_cancel, e5]
      rw [e]; unfold nw; simp
    · refine mv_up V hi f1 ⟨by simp; omega, ?_, fun k hk => ?_⟩ w
      · rw [uI_at, e]; simp
      · have hk2 : k < a.length := by rw [e] at hk; simpa using hk
        rw [uI_ne (by omega), V.fc i k hi (by omega), e]
        simp
        rw [List.getElem?_append_left hk2]
end
