/-! PURE: walk agrees -/
/-- scratch, but not what was laid out -/
def sr (h h' : gz_H) : Prop := sc h h' ∧ ∀ k, h'.2.1 101 k = h.2.1 101 k
theorem sr.rf {h : gz_H} : sr h h := ⟨sc.rf, fun _ => rfl⟩
theorem sr.tr {h h1 h2 : gz_H} (a : sr h h1) (b : sr h1 h2) : sr h h2 := ⟨a.1.tr b.1, fun k => (b.2 k).trans (a.2 k)⟩
section
variable {h : gz_H} {T : gz_T} {E : gz_D}
theorem m_layHeldS (V : MV h T E) {i : Nat} (hi : i < T.2.1) : ∃ h', fX9_layHeld 85 (nI i) h = some ((), h') ∧ sr h h' ∧ TR h' (E i).1 := by
  have H := V.H
  have b := V.b
  have bi := V.bi i hi
  unfold fX9_layHeld fX9_layHeld_0
  simp (disch := first | assumption | omega | trivial | rfl) only [ck_1, br_s, b2_s, bi_s, lt_d, bo_0, bo_1, lt_d, uI_1, uI_R, uI_L, uF_1, uF_R, uF_L, uL_1, uL_I, uL_R, uR_1, uR_I, uR_L, inb_uI, inb_uF, inb_uL, inb_uR, len_uI, len_uF, sh_uI, sh_uF, sh_uL, sh_uR, rf_0_0, rf_0_1, rf_0_2, rf_0_3, rf_0_4, rf_0_5, rf_0_6, rf_0_7, rf_0_8, rf_0_9, rf_0_12, rf_0_13, rf_0_14, rf_0_15, rf_0_16, rf_0_17, rf_1_1, rf_1_2, rf_10_1, rf_10_2, rf_18_0, rf_21_0, rf_23_0, rf_25_0, rf_79_0, rf_81_0, rf_83_0, rf_28_0, rf_28_1, rf_31_0, rf_33_0, rf_35_0, rf_37_0, rf_39_0, rf_41_0, rf_43_0, rf_43_1, rf_46_0, rf_48_0, rf_50_0, rf_52_0, rf_54_0, rf_56_0, rf_58_0, rf_58_1, rf_61_0, rf_63_0, rf_65_0, rf_67_0, rf_69_0, rf_71_0, rf_85_0, rf_85_2, rf_85_4, rf_85_5, rf_85_6, rf_85_7, rf_85_8, rf_85_9, rf_85_10, rf_85_15, rf_85_19, rf_85_21, rf_85_22, rf_85_23, rf_85_26, rf_85_27, rf_85_28, rf_2, rf_11, rf_30, rf_45, rf_60, rf_27, sgr_31, sgr_46, sgr_61, slr_79, in_2, in_9, ln_9, in_11, in_16, ln_16, in_19, ln_19, in_22, ln_22, in_24, ln_24, in_26, ln_26, in_27, in_29, ln_29, in_30, in_44, ln_44, in_45, in_59, ln_59, in_60, in_73, ln_73, in_74, ln_74, in_75, ln_75, in_76, ln_76, in_77, ln_77, in_78, ln_78, in_80, ln_80, in_82, ln_82, in_84, ln_84, in_86, ln_86, in_87, ln_87, in_88, ln_88, in_89, ln_89, in_90, ln_90, in_91, ln_91, in_92, ln_92, in_93, ln_93, in_94, ln_94, in_95, ln_95, in_96, ln_96, in_97, ln_97, in_98, ln_98, in_99, ln_99, in_100, ln_100, in_101, ln_101, in_102, ln_102, sh_0, sh_1, sh_10, sh_17, sh_18, sh_20, sh_21, sh_23, sh_25, sh_28, sh_43, sh_58, sh_79, sh_81, sh_83, sh_85, sgk_31, sgi_31, sgk_46, sgi_46, sgk_61, sgi_61, slk_79, sli_79, ini_rw, ini_tx, li_0, li_1, li_2, li_3, li_4, li_5, li_6, li_7, li_8, li_9, li_10, li_11, li_12, li_13, li_14, li_15, li_16, li_31, li_32, li_36, li_40, li_48, li_53, li_55, li_56, li_57, li_58, li_60, li_63, li_64, li_80, li_97, li_98, li_99, li_100, li_103, li_104, li_108, li_115, li_116, li_118, li_200, li_256, li_1000, li_2256, not_true_eq_false, not_false_eq_true, Bool.false_eq_true, if_true, if_false, Nat.or_zero, Nat.zero_or, pk_rem, nI_m31, nI_sl, nI_bt, nI_or, nI_sub', nI_n9, nI_9n, nI_n1, bo_n0, bo_n1, bo_if, nI_if, nI_if0, nI_if1, if_10, if_11, t_bits, t_bc, t_has, nI_clamp, nI_add, pk_mul, pk_sub, nI_eq, nI_leI, nI_ltI, if_pos, if_neg, uI_at, uI_to, uI_ne, uF_at, uF_ne, V.mn]
  refine lpr (fun m k (s : gz_H) => fX9_layHeld_14 m 85 (nI i) (nI k) s) (fun k s => sr h s ∧ s.2.1 85 25 = nI (E i).1.length ∧ ∀ q, q < k → s.2.1 100 q = nI ((E i).1.getD q 0)) (E i).1.length (fun r => ∃ h', r = some ((), h') ∧ sr h h' ∧ TR h' (E i).1) ?_ ?_ gz_fu 0 _ (by omega) (by show (E i).1.length < 0 + 100000; omega) ⟨⟨sc.uI (by unfold scr; omega), fun k => uI_ne (by omega)⟩, uI_at, fun q hq => absurd hq (by omega)⟩
  · intro m s ⟨s1, s2, s3⟩
    have H1 := s1.1.la H
    refine ⟨s, ?_, s1, s2, s3⟩
    rw [fX9_layHeld_14]
    simp (disch := first | assumption | omega | trivial | rfl) only [ck_1, br_s, b2_s, bi_s, lt_d, bo_0, bo_1, lt_d, uI_1, uI_R, uI_L, uF_1, uF_R, uF_L, uL_1, uL_I, uL_R, uR_1, uR_I, uR_L, inb_uI, inb_uF, inb_uL, inb_uR, len_uI, len_uF, sh_uI, sh_uF, sh_uL, sh_uR, rf_0_0, rf_0_1, rf_0_2, rf_0_3, rf_0_4, rf_0_5, rf_0_6, rf_0_7, rf_0_8, rf_0_9, rf_0_12, rf_0_13, rf_0_14, rf_0_15, rf_0_16, rf_0_17, rf_1_1, rf_1_2, rf_10_1, rf_10_2, rf_18_0, rf_21_0, rf_23_0, rf_25_0, rf_79_0, rf_81_0, rf_83_0, rf_28_0, rf_28_1, rf_31_0, rf_33_0, rf_35_0, rf_37_0, rf_39_0, rf_41_0, rf_43_0, rf_43_1, rf_46_0, rf_48_0, rf_50_0, rf_52_0, rf_54_0, rf_56_0, rf_58_0, rf_58_1, rf_61_0, rf_63_0, rf_65_0, rf_67_0, rf_69_0, rf_71_0, rf_85_0, rf_85_2, rf_85_4, rf_85_5, rf_85_6, rf_85_7, rf_85_8, rf_85_9, rf_85_10, rf_85_15, rf_85_19, rf_85_21, rf_85_22, rf_85_23, rf_85_26, rf_85_27, rf_85_28, rf_2, rf_11, rf_30, rf_45, rf_60, rf_27, sgr_31, sgr_46, sgr_61, slr_79, in_2, in_9, ln_9, in_11, in_16, ln_16, in_19, ln_19, in_22, ln_22, in_24, ln_24, in_26, ln_26, in_27, in_29, ln_29, in_30, in_44, ln_44, in_45, in_59, ln_59, in_60, in_73, ln_73, in_74, ln_74, in_75, ln_75, in_76, ln_76, in_77, ln_77, in_78, ln_78, in_80, ln_80, in_82, ln_82, in_84, ln_84, in_86, ln_86, in_87, ln_87, in_88, ln_88, in_89, ln_89, in_90, ln_90, in_91, ln_91, in_92, ln_92, in_93, ln_93, in_94, ln_94, in_95, ln_95, in_96, ln_96, in_97, ln_97, in_98, ln_98, in_99, ln_99, in_100, ln_100, in_101, ln_101, in_102, ln_102, sh_0, sh_1, sh_10, sh_17, sh_18, sh_20, sh_21, sh_23, sh_25, sh_28, sh_43, sh_58, sh_79, sh_81, sh_83, sh_85, sgk_31, sgi_31, sgk_46, sgi_46, sgk_61, sgi_61, slk_79, sli_79, ini_rw, ini_tx, li_0, li_1, li_2, li_3, li_4, li_5, li_6, li_7, li_8, li_9, li_10, li_11, li_12, li_13, li_14, li_15, li_16, li_31, li_32, li_36, li_40, li_48, li_53, li_55, li_56, li_57, li_58, li_60, li_63, li_64, li_80, li_97, li_98, li_99, li_100, li_103, li_104, li_108, li_115, li_116, li_118, li_200, li_256, li_1000, li_2256, not_true_eq_false, not_false_eq_true, Bool.false_eq_true, if_true, if_false, Nat.or_zero, Nat.zero_or, pk_rem, nI_m31, nI_sl, nI_bt, nI_or, nI_sub', nI_n9, nI_9n, nI_n1, bo_n0, bo_n1, bo_if, nI_if, nI_if0, nI_if1, if_10, if_11, t_bits, t_bc, t_has, nI_clamp, nI_add, pk_mul, pk_sub, nI_eq, nI_leI, nI_ltI, if_pos, if_neg, uI_at, uI_to, uI_ne, uF_at, uF_ne, s2]
  · intro m k s hk ⟨s1, s2, s3⟩
    have H1 := s1.1.la H
    refine ⟨uI s 100 k (nI ((E i).1.getD k 0)), ⟨s1.tr ⟨sc.uI (by unfold scr; omega), fun k => uI_ne (by omega)⟩, by rw [uI_ne (by omega)]; exact s2, fun q hq => ?_⟩, ?_⟩
    · by_cases e : q = k
      · rw [e, uI_at]
      · rw [uI_ne (fun z => e z.2)]; exact s3 q (by omega)
    · rw [fX9_layHeld_14]
      simp (disch := first | assumption | omega | trivial | rfl) only [ck_1, br_s, b2_s, bi_s, lt_d, bo_0, bo_1, lt_d, uI_1, uI_R, uI_L, uF_1, uF_R, uF_L, uL_1, uL_I, uL_R, uR_1, uR_I, uR_L, inb_uI, inb_uF, inb_uL, inb_uR, len_uI, len_uF, sh_uI, sh_uF, sh_uL, sh_uR, rf_0_0, rf_0_1, rf_0_2, rf_0_3, rf_0_4, rf_0_5, rf_0_6, rf_0_7, rf_0_8, rf_0_9, rf_0_12, rf_0_13, rf_0_14, rf_0_15, rf_0_16, rf_0_17, rf_1_1, rf_1_2, rf_10_1, rf_10_2, rf_18_0, rf_21_0, rf_23_0, rf_25_0, rf_79_0, rf_81_0, rf_83_0, rf_28_0, rf_28_1, rf_31_0, rf_33_0, rf_35_0, rf_37_0, rf_39_0, rf_41_0, rf_43_0, rf_43_1, rf_46_0, rf_48_0, rf_50_0, rf_52_0, rf_54_0, rf_56_0, rf_58_0, rf_58_1, rf_61_0, rf_63_0, rf_65_0, rf_67_0, rf_69_0, rf_71_0, rf_85_0, rf_85_2, rf_85_4, rf_85_5, rf_85_6, rf_85_7, rf_85_8, rf_85_9, rf_85_10, rf_85_15, rf_85_19, rf_85_21, rf_85_22, rf_85_23, rf_85_26, rf_85_27, rf_85_28, rf_2, rf_11, rf_30, rf_45, rf_60, rf_27, sgr_31, sgr_46, sgr_61, slr_79, in_2, in_9, ln_9, in_11, in_16, ln_16, in_19, ln_19, in_22, ln_22, in_24, ln_24, in_26, ln_26, in_27, in_29, ln_29, in_30, in_44, ln_44, in_45, in_59, ln_59, in_60, in_73, ln_73, in_74, ln_74, in_75, ln_75, in_76, ln_76, in_77, ln_77, in_78, ln_78, in_80, ln_80, in_82, ln_82, in_84, ln_84, in_86, ln_86, in_87, ln_87, in_88, ln_88, in_89, ln_89, in_90, ln_90, in_91, ln_91, in_92, ln_92, in_93, ln_93, in_94, ln_94, in_95, ln_95, in_96, ln_96, in_97, ln_97, in_98, ln_98, in_99, ln_99, in_100, ln_100, in_101, ln_101, in_102, ln_102, sh_0, sh_1, sh_10, sh_17, sh_18, sh_20, sh_21, sh_23, sh_25, sh_28, sh_43, sh_58, sh_79, sh_81, sh_83, sh_85, sgk_31, sgi_31, sgk_46, sgi_46, sgk_61, sgi_61, slk_79, sli_79, ini_rw, ini_tx, li_0, li_1, li_2, li_3, li_4, li_5, li_6, li_7, li_8, li_9, li_10, li_11, li_12, li_13, li_14, li_15, li_16, li_31, li_32, li_36, li_40, li_48, li_53, li_55, li_56, li_57, li_58, li_60, li_63, li_64, li_80, li_97, li_98, li_99, li_100, li_103, li_104, li_108, li_115, li_116, li_118, li_200, li_256, li_1000, li_2256, not_true_eq_false, not_false_eq_true, Bool.false_eq_true, if_true, if_false, Nat.or_zero, Nat.zero_or, pk_rem, nI_m31, nI_sl, nI_bt, nI_or, nI_sub', nI_n9, nI_9n, nI_n1, bo_n0, bo_n1, bo_if, nI_if, nI_if0, nI_if1, if_10, if_11, t_bits, t_bc, t_has, nI_clamp, nI_add, pk_mul, pk_sub, nI_eq, nI_leI, nI_ltI, if_pos, if_neg, uI_at, uI_to, uI_ne, uF_at, uF_ne, s2, m_factOf (V.sc s1.1) hi hk]
theorem m_tellsAtS (V : MV h T E) {i p : Nat} (hi : i < T.2.1) (hp : p < 6) : ∃ h', fX9_tellsAt 85 (nI i) (nI p) h = some (nI (tae T E i p), h') ∧ sr h h' := by
  have H := V.H
  have b := V.b
  have bi := V.bi i hi
  obtain ⟨h1, e1, s1, R⟩ := m_layHeldS V hi
  have V1 := V.sc s1.1
  have H1 := V1.H
  refine ⟨h1, ?_, s1⟩
  unfold fX9_tellsAt fX9_tellsAt_0 tae
  simp (disch := first | assumption | omega | trivial | rfl) only [ck_1, br_s, b2_s, bi_s, lt_d, bo_0, bo_1, lt_d, uI_1, uI_R, uI_L, uF_1, uF_R, uF_L, uL_1, uL_I, uL_R, uR_1, uR_I, uR_L, inb_uI, inb_uF, inb_uL, inb_uR, len_uI, len_uF, sh_uI, sh_uF, sh_uL, sh_uR, rf_0_0, rf_0_1, rf_0_2, rf_0_3, rf_0_4, rf_0_5, rf_0_6, rf_0_7, rf_0_8, rf_0_9, rf_0_12, rf_0_13, rf_0_14, rf_0_15, rf_0_16, rf_0_17, rf_1_1, rf_1_2, rf_10_1, rf_10_2, rf_18_0, rf_21_0, rf_23_0, rf_25_0, rf_79_0, rf_81_0, rf_83_0, rf_28_0, rf_28_1, rf_31_0, rf_33_0, rf_35_0, rf_37_0, rf_39_0, rf_41_0, rf_43_0, rf_43_1, rf_46_0, rf_48_0, rf_50_0, rf_52_0, rf_54_0, rf_56_0, rf_58_0, rf_58_1, rf_61_0, rf_63_0, rf_65_0, rf_67_0, rf_69_0, rf_71_0, rf_85_0, rf_85_2, rf_85_4, rf_85_5, rf_85_6, rf_85_7, rf_85_8, rf_85_9, rf_85_10, rf_85_15, rf_85_19, rf_85_21, rf_85_22, rf_85_23, rf_85_26, rf_85_27, rf_85_28, rf_2, rf_11, rf_30, rf_45, rf_60, rf_27, sgr_31, sgr_46, sgr_61, slr_79, in_2, in_9, ln_9, in_11, in_16, ln_16, in_19, ln_19, in_22, ln_22, in_24, ln_24, in_26, ln_26, in_27, in_29, ln_29, in_30, in_44, ln_44, in_45, in_59, ln_59, in_60, in_73, ln_73, in_74, ln_74, in_75, ln_75, in_76, ln_76, in_77, ln_77, in_78, ln_78, in_80, ln_80, in_82, ln_82, in_84, ln_84, in_86, ln_86, in_87, ln_87, in_88, ln_88, in_89, ln_89, in_90, ln_90, in_91, ln_91, in_92, ln_92, in_93, ln_93, in_94, ln_94, in_95, ln_95, in_96, ln_96, in_97, ln_97, in_98, ln_98, in_99, ln_99, in_100, ln_100, in_101, ln_101, in_102, ln_102, sh_0, sh_1, sh_10, sh_17, sh_18, sh_20, sh_21, sh_23, sh_25, sh_28, sh_43, sh_58, sh_79, sh_81, sh_83, sh_85, sgk_31, sgi_31, sgk_46, sgi_46, sgk_61, sgi_61, slk_79, sli_79, ini_rw, ini_tx, li_0, li_1, li_2, li_3, li_4, li_5, li_6, li_7, li_8, li_9, li_10, li_11, li_12, li_13, li_14, li_15, li_16, li_31, li_32, li_36, li_40, li_48, li_53, li_55, li_56, li_57, li_58, li_60, li_63, li_64, li_80, li_97, li_98, li_99, li_100, li_103, li_104, li_108, li_115, li_116, li_118, li_200, li_256, li_1000, li_2256, not_true_eq_false, not_false_eq_true, Bool.false_eq_true, if_true, if_false, Nat.or_zero, Nat.zero_or, pk_rem, nI_m31, nI_sl, nI_bt, nI_or, nI_sub', nI_n9, nI_9n, nI_n1, bo_n0, bo_n1, bo_if, nI_if, nI_if0, nI_if1, if_10, if_11, t_bits, t_bc, t_has, nI_clamp, nI_add, pk_mul, pk_sub, nI_eq, nI_leI, nI_ltI, if_pos, if_neg, uI_at, uI_to, uI_ne, uF_at, uF_ne, e1, m_isGone V1 hi, V1.kd, V1.mo, m_tellsTried V1 R bi.2.2.2.2.1 (V.2.2.1 i hi).2.2.1 bi.1 hp bi.2.2.1 bi.2.2.2.2.2]
  by_cases q : (E i).2 = true
  · rw [if_neg (fun z => z q), (V.2.2.1 i hi).2.2.2 q, ta_nil]
  · rw [if_pos q]
/-- what each tells at each place is laid out -/
def SY (T : gz_T) (E : gz_D) (h : gz_H) (n : Nat) : Prop := ∀ i p, i < n → p < 6 → h.2.1 101 (6 * i + p) = nI (tae T E i p)
theorem m_laySays (V : MV h T E) : ∃ h', fX9_laySays 85 h = some ((), h') ∧ sc h h' ∧ SY T E h' T.2.1 := by
  have b := V.b
  unfold fX9_laySays fX9_laySays_0
  have hfu : T.2.1 < 0 + gz_fu := by show T.2.1 < 0 + 100000; omega
  have hfu6 : 6 < 0 + gz_fu := by show 6 < 0 + 100000; omega
  generalize ef : gz_fu = fu at hfu hfu6
  refine lpr (fun m i (s : gz_H) => fX9_laySays_2 m 85 (nI i) s) (fun i s => sc h s ∧ SY T E s i) T.2.1 (fun r => ∃ h', r = some ((), h') ∧ sc h h' ∧ SY T E h' T.2.1) ?_ ?_ fu 0 h (by omega) hfu ⟨sc.rf, fun i p hi => absurd hi (by omega)⟩
  · intro m s ⟨s1, s2⟩
    have V1 := V.sc s1
    have H1 := V1.H
    refine ⟨s, ?_, s1, s2⟩
    rw [fX9_laySays_2, ck_t (sh_85 H1), V1.n, if_pos (nI_le (Nat.le_refl _) (by omega))]
  · intro m i s hi ⟨s1, s2⟩
    have V1 := V.sc s1
    have H1 := V1.H
    have A : ∃ s', fX9_laySays_12 (fun z0 z1 zh => fX9_laySays_2 m z0 z1 zh) fu 85 (nI i) (nI 0) s = fX9_laySays_2 m 85 (nI i + 1) s' ∧ sc h s' ∧ SY T E s' i ∧ ∀ p, p < 6 → s'.2.1 101 (6 * i + p) = nI (tae T E i p) := by
      refine lpr (fun n p (q : gz_H) => fX9_laySays_12 (fun z0 z1 zh => fX9_laySays_2 m z0 z1 zh) n 85 (nI i) (nI p) q) (fun p q => sc h q ∧ SY T E q i ∧ ∀ p', p' < p → q.2.1 101 (6 * i + p') = nI (tae T E i p')) 6 (fun r => ∃ s', r = fX9_laySays_2 m 85 (nI i + 1) s' ∧ sc h s' ∧ SY T E s' i ∧ ∀ p, p < 6 → s'.2.1 101 (6 * i + p) = nI (tae T E i p)) ?_ ?_ fu 0 s (by omega) hfu6 ⟨s1, s2, fun p hp => absurd hp (by omega)⟩
      · intro n q ⟨q1, q2, q3⟩
        refine ⟨q, ?_, q1, q2, q3⟩
        rw [fX9_laySays_12, if_pos (by decide)]
      · intro n p q hp ⟨q1, q2, q3⟩
        have V2 := V.sc q1
        have H2 := V2.H
        obtain ⟨q', e, f⟩ := m_tellsAtS V2 hi hp
        have H3 := f.1.la H2
        refine ⟨uI q' 101 (6 * i + p) (nI (tae T E i p)), ⟨(q1.tr f.1).tr (sc.uI (by unfold scr; omega)), fun i' p' hi' hp' => ?_, fun p' hp' => ?_⟩, ?_⟩
        · rw [uI_ne (by omega), f.2]; exact q2 i' p' hi' hp'
        · by_cases c : p' = p
          · rw [c, uI_at]
          · rw [uI_ne (by omega), f.2]; exact q3 p' (by omega)
        · rw [fX9_laySays_12, if_neg (show ¬ (6 : Int32) ≤ nI p from nI_ge hp (by decide)), ck_t (sh_85 H2), rf_85_27 H2, br_s, e, b2_s, show (6 : Int32) = nI 6 from rfl, n_mul, ck_t (in_101 H3 (by omega)), nI_clamp (by omega), lt_d, nI_1]
    obtain ⟨s', e, t1, t2, t3⟩ := A
    refine ⟨s', ⟨t1, fun i' p' hi' hp' => ?_⟩, ?_⟩
    · by_cases c : i' = i
      · rw [c]; exact t3 p' hp'
      · exact t2 i' p' (by omega) hp'
    · rw [fX9_laySays_2, ck_t (sh_85 H1), V1.n, if_neg (nI_ge hi (by omega)), ef]
      exact e.trans (by rw [nI_1])
theorem m_saidBy (H : gz_La h) {i s : Nat} (hi : i < 6) (hs : s < 64) {g : Nat → Nat} (hg : ∀ p, p < 6 → h.2.1 101 (6 * i + p) = nI (g p)) : fX9_saidBy 85 (nI i) (nI s) h = some (nI (fo (fun p => if s.testBit p = true then g p else 0) 6), h) := by
  unfold fX9_saidBy fX9_saidBy_0
  refine lp (fun m p (y : Int32) => fX9_saidBy_5 m 85 (nI i) (nI s) y (nI p) h) (fun p => nI (fo (fun p => if s.testBit p = true then g p else 0) p)) 6 _ ?_ ?_ gz_fu 0 (by omega) (by show 6 < 0 + 100000; omega)
  · intro m
    rw [fX9_saidBy_5, if_pos (by decide)]
  · intro m p hp
    rw [fX9_saidBy_5]
    unfold fX9_saidBy_38
    by_cases q : s.testBit p = true
    · simp (disch := first | assumption | omega | trivial | rfl) only [ck_1, br_s, b2_s, bi_s, lt_d, bo_0, bo_1, lt_d, uI_1, uI_R, uI_L, uF_1, uF_R, uF_L, uL_1, uL_I, uL_R, uR_1, uR_I, uR_L, inb_uI, inb_uF, inb_uL, inb_uR, len_uI, len_uF, sh_uI, sh_uF, sh_uL, sh_uR, rf_0_0, rf_0_1, rf_0_2, rf_0_3, rf_0_4, rf_0_5, rf_0_6, rf_0_7, rf_0_8, rf_0_9, rf_0_12, rf_0_13, rf_0_14, rf_0_15, rf_0_16, rf_0_17, rf_1_1, rf_1_2, rf_10_1, rf_10_2, rf_18_0, rf_21_0, rf_23_0, rf_25_0, rf_79_0, rf_81_0, rf_83_0, rf_28_0, rf_28_1, rf_31_0, rf_33_0, rf_35_0, rf_37_0, rf_39_0, rf_41_0, rf_43_0, rf_43_1, rf_46_0, rf_48_0, rf_50_0, rf_52_0, rf_54_0, rf_56_0, rf_58_0, rf_58_1, rf_61_0, rf_63_0, rf_65_0, rf_67_0, rf_69_0, rf_71_0, rf_85_0, rf_85_2, rf_85_4, rf_85_5, rf_85_6, rf_85_7, rf_85_8, rf_85_9, rf_85_10, rf_85_15, rf_85_19, rf_85_21, rf_85_22, rf_85_23, rf_85_26, rf_85_27, rf_85_28, rf_2, rf_11, rf_30, rf_45, rf_60, rf_27, sgr_31, sgr_46, sgr_61, slr_79, in_2, in_9, ln_9, in_11, in_16, ln_16, in_19, ln_19, in_22, ln_22, in_24, ln_24, in_26, ln_26, in_27, in_29, ln_29, in_30, in_44, ln_44, in_45, in_59, ln_59, in_60, in_73, ln_73, in_74, ln_74, in_75, ln_75, in_76, ln_76, in_77, ln_77, in_78, ln_78, in_80, ln_80, in_82, ln_82, in_84, ln_84, in_86, ln_86, in_87, ln_87, in_88, ln_88, in_89, ln_89, in_90, ln_90, in_91, ln_91, in_92, ln_92, in_93, ln_93, in_94, ln_94, in_95, ln_95, in_96, ln_96, in_97, ln_97, in_98, ln_98, in_99, ln_99, in_100, ln_100, in_101, ln_101, in_102, ln_102, sh_0, sh_1, sh_10, sh_17, sh_18, sh_20, sh_21, sh_23, sh_25, sh_28, sh_43, sh_58, sh_79, sh_81, sh_83, sh_85, sgk_31, sgi_31, sgk_46, sgi_46, sgk_61, sgi_61, slk_79, sli_79, ini_rw, ini_tx, li_0, li_1, li_2, li_3, li_4, li_5, li_6, li_7, li_8, li_9, li_10, li_11, li_12, li_13, li_14, li_15, li_16, li_31, li_32, li_36, li_40, li_48, li_53, li_55, li_56, li_57, li_58, li_60, li_63, li_64, li_80, li_97, li_98, li_99, li_100, li_103, li_104, li_108, li_115, li_116, li_118, li_200, li_256, li_1000, li_2256, not_true_eq_false, not_false_eq_true, Bool.false_eq_true, if_true, if_false, Nat.or_zero, Nat.zero_or, pk_rem, nI_m31, nI_sl, nI_bt, nI_or, nI_sub', nI_n9, nI_9n, nI_n1, bo_n0, bo_n1, bo_if, nI_if, nI_if0, nI_if1, if_10, if_11, t_bits, t_bc, t_has, nI_clamp, nI_add, pk_mul, pk_sub, nI_eq, nI_leI, nI_ltI, if_pos, if_neg, uI_at, uI_to, uI_ne, uF_at, uF_ne, hg, q, fo]
    · simp (disch := first | assumption | omega | trivial | rfl) only [ck_1, br_s, b2_s, bi_s, lt_d, bo_0, bo_1, lt_d, uI_1, uI_R, uI_L, uF_1, uF_R, uF_L, uL_1, uL_I, uL_R, uR_1, uR_I, uR_L, inb_uI, inb_uF, inb_uL, inb_uR, len_uI, len_uF, sh_uI, sh_uF, sh_uL, sh_uR, rf_0_0, rf_0_1, rf_0_2, rf_0_3, rf_0_4, rf_0_5, rf_0_6, rf_0_7, rf_0_8, rf_0_9, rf_0_12, rf_0_13, rf_0_14, rf_0_15, rf_0_16, rf_0_17, rf_1_1, rf_1_2, rf_10_1, rf_10_2, rf_18_0, rf_21_0, rf_23_0, rf_25_0, rf_79_0, rf_81_0, rf_83_0, rf_28_0, rf_28_1, rf_31_0, rf_33_0, rf_35_0, rf_37_0, rf_39_0, rf_41_0, rf_43_0, rf_43_1, rf_46_0, rf_48_0, rf_50_0, rf_52_0, rf_54_0, rf_56_0, rf_58_0, rf_58_1, rf_61_0, rf_63_0, rf_65_0, rf_67_0, rf_69_0, rf_71_0, rf_85_0, rf_85_2, rf_85_4, rf_85_5, rf_85_6, rf_85_7, rf_85_8, rf_85_9, rf_85_10, rf_85_15, rf_85_19, rf_85_21, rf_85_22, rf_85_23, rf_85_26, rf_85_27, rf_85_28, rf_2, rf_11, rf_30, rf_45, rf_60, rf_27, sgr_31, sgr_46, sgr_61, slr_79, in_2, in_9, ln_9, in_11, in_16, ln_16, in_19, ln_19, in_22, ln_22, in_24, ln_24, in_26, ln_26, in_27, in_29, ln_29, in_30, in_44, ln_44, in_45, in_59, ln_59, in_60, in_73, ln_73, in_74, ln_74, in_75, ln_75, in_76, ln_76, in_77, ln_77, in_78, ln_78, in_80, ln_80, in_82, ln_82, in_84, ln_84, in_86, ln_86, in_87, ln_87, in_88, ln_88, in_89, ln_89, in_90, ln_90, in_91, ln_91, in_92, ln_92, in_93, ln_93, in_94, ln_94, in_95, ln_95, in_96, ln_96, in_97, ln_97, in_98, ln_98, in_99, ln_99, in_100, ln_100, in_101, ln_101, in_102, ln_102, sh_0, sh_1, sh_10, sh_17, sh_18, sh_20, sh_21, sh_23, sh_25, sh_28, sh_43, sh_58, sh_79, sh_81, sh_83, sh_85, sgk_31, sgi_31, sgk_46, sgi_46, sgk_61, sgi_61, slk_79, sli_79, ini_rw, ini_tx, li_0, li_1, li_2, li_3, li_4, li_5, li_6, li_7, li_8, li_9, li_10, li_11, li_12, li_13, li_14, li_15, li_16, li_31, li_32, li_36, li_40, li_48, li_53, li_55, li_56, li_57, li_58, li_60, li_63, li_64, li_80, li_97, li_98, li_99, li_100, li_103, li_104, li_108, li_115, li_116, li_118, li_200, li_256, li_1000, li_2256, not_true_eq_false, not_false_eq_true, Bool.false_eq_true, if_true, if_false, Nat.or_zero, Nat.zero_or, pk_rem, nI_m31, nI_sl, nI_bt, nI_or, nI_sub', nI_n9, nI_9n, nI_n1, bo_n0, bo_n1, bo_if, nI_if, nI_if0, nI_if1, if_10, if_11, t_bits, t_bc, t_has, nI_clamp, nI_add, pk_mul, pk_sub, nI_eq, nI_leI, nI_ltI, if_pos, if_neg, uI_at, uI_to, uI_ne, uF_at, uF_ne, q, fo, Nat.or_zero]
end
def ahd (k b : Nat) : Bool := decide (¬ (((nI k ^^^ nI b) &&& (-(nI k ^^^ nI b))) &&& nI k) = 0)
def wsh (o : Option Nat) (k : Nat) : Bool := match o with
  | none => true
  | some b => decide (pc k < pc b) || (decide (pc k = pc b) && ahd k b)
def wkB (ok : Nat → Bool) : Nat → Option Nat
  | 0 => none
  | k + 1 => if (ok k && wsh (wkB ok k) k) = true then some k else wkB ok k
theorem wkB_lt {ok : Nat → Bool} : ∀ {k b : Nat}, wkB ok k = some b → b < k := by
  intro k
  induction k with
  | zero => intro b e; exact absurd e (by simp [wkB])
  | succ k ih =>
    intro b e
    rw [wkB] at e
    by_cases c : (ok k && wsh (wkB ok k) k) = true
    · rw [if_pos c] at e
      have := Option.some.inj e
      omega
    · rw [if_neg c] at e
      have := ih e
      omega
def wkN (b : Nat) : Nat → Nat
  | 0 => 0
  | p + 1 => if b.testBit p = true then wkN b p + 1 else wkN b p
def wkC (b : Nat) : Nat → Nat → Int32
  | 0, _ => 0
  | p + 1, j => if b.testBit p = true ∧ j = wkN b p then nI p else wkC b p j
theorem wkN_le (b : Nat) : ∀ p, wkN b p ≤ p
  | 0 => Nat.le_refl _
  | p + 1 => by
    have := wkN_le b p
    rw [wkN]
    by_cases c : b.testBit p = true
    · rw [if_pos c]; omega
    · rw [if_neg c]; omega
theorem sub89 : ∀ a b : Fin 9, (0 < nI a.1 - nI b.1 ↔ b.1 < a.1) ∧ (nI a.1 - nI b.1 = 0 ↔ a.1 = b.1) := by decide +kernel
section
variable {h : gz_H} {T : gz_T} {E : gz_D}
def wkOk (T : gz_T) (E : gz_D) (i s k : Nat) : Bool := decide (sd s (fo (fun p => if k.testBit p = true then tae T E i p else 0) 6) = 0)
theorem x_isShorter {k b : Nat} (hk : k < 256) (hb : b < 256) : fX8_isShorter (nI k) (nI b) h = some (if wsh (some b) k = true then 1 else 0, h) := by
  have q1 := pc_le k
  have q2 := pc_le b
  have d := sub89 ⟨pc b, by omega⟩ ⟨pc k, by omega⟩
  have hw : wsh (some b) k = (decide (pc k < pc b) || (decide (pc k = pc b) && ahd k b)) := rfl
  unfold fX8_isShorter fX8_isShorter_0 fX8_isShorter_31
  rw [t_bc hb, b2_s, t_bc hk, b2_s, hw]
  by_cases c : pc k < pc b
  · rw [if_pos (d.1.mpr c), decide_eq_true c, Bool.true_or, if_pos rfl]
  · rw [if_neg (fun z => c (d.1.mp z)), decide_eq_false c, Bool.false_or]
    by_cases c2 : pc k = pc b
    · rw [if_pos (d.2.mpr c2.symm), decide_eq_true c2, Bool.true_and]
      have e : (nI k &&& (nI k ^^^ nI b)) &&& (-(nI k ^^^ nI b)) = ((nI k ^^^ nI b) &&& (-(nI k ^^^ nI b))) &&& nI k := by
        rw [Int32.and_assoc, Int32.and_comm]
      rw [e]
      unfold ahd
      by_cases c3 : ((nI k ^^^ nI b) &&& (-(nI k ^^^ nI b))) &&& nI k = 0
      · rw [if_pos c3, if_neg (by simpa using c3)]
      · rw [if_neg c3, if_pos (by simpa using c3)]
    · rw [if_neg (fun z => c2 (d.2.mp z).symm), decide_eq_false c2, Bool.false_and, if_neg (by decide)]
theorem x_walkS (H : gz_La h) {i : Nat} (hg : ∀ p, p < 6 → h.2.1 74 p = nI (tae T E i p)) {s k m : Nat} (hs : s < 256) (hk : k < 64) {o : Option Nat} (ho : ∀ b, o = some b → b < k) : fX8_shortestWalk_35 (m + 1) 0 (nI s) (enc o) (nI k) h = fX8_shortestWalk_35 m 0 (nI s) (enc (if (wkOk T E i s k && wsh o k) = true then some k else o)) (nI (k + 1)) h := by
  have e3 := x_joined H (Or.inr rfl) hg (x := nI k) (p := fun i => k.testBit i) (fun i hi => nI_bts (by omega) (by omega))
  have hsd : sd s (fo (fun p => if k.testBit p = true then tae T E i p else 0) 6) < 256 := sd_lt (c := 8) (by omega)
  rw [fX8_shortestWalk_35, if_neg (show ¬ (64 : Int32) ≤ nI k from nI_ge hk (by decide)), ck_t (sh_0 H), rf_0_13 H, br_s, e3, b2_s, nI_nand]
  unfold fX8_shortestWalk_73 fX8_shortestWalk_76 wkOk
  by_cases c : sd s (fo (fun p => if k.testBit p = true then tae T E i p else 0) 6) = 0
  · rw [if_pos ((nI_z (by omega)).mpr c), decide_eq_true c, Bool.true_and, nI_1]
    cases o with
    | none => rw [if_pos enc_n]; rfl
    | some b =>
      have hb := ho b rfl
      rw [if_neg (enc_ne (by omega))]
      show gz_b2 (fX8_isShorter (nI k) (nI b) h) _ = _
      rw [x_isShorter (by omega) (by omega), b2_s]
      by_cases d : wsh (some b) k = true
      · rw [if_pos d, if_neg (by decide), if_pos d]; rfl
      · rw [if_neg d, if_pos rfl, if_neg d]
  · rw [if_neg (fun z => c ((nI_z (by omega)).mp z)), decide_eq_false c, Bool.false_and, if_neg (by decide), nI_1]
theorem x_walkL (V : XV h T E) {i s : Nat} (hi : i < T.2.1) (hs : s < 256) : ∃ h', fX8_shortestWalk 0 (nI i) (nI s) h = some (enc (wkB (wkOk T E i s) 64), h') ∧ sc h h' := by
  unfold fX8_shortestWalk fX8_shortestWalk_0
  have hfu : 6 < 0 + gz_fu := by show 6 < 0 + 100000; omega
  have hfu64 : 64 < 0 + gz_fu := by show 64 < 0 + 100000; omega
  generalize ef : gz_fu = fu at hfu hfu64 
  refine lpr (fun m p (q : gz_H) => fX8_shortestWalk_2 m 0 (nI i) (nI s) (nI p) q) (fun p q => sc h q ∧ ∀ p', p' < p → q.2.1 74 p' = nI (tae T E i p')) 6 (fun r => ∃ h', r = some (enc (wkB (wkOk T E i s) 64), h') ∧ sc h h') ?_ ?_ fu 0 h (by omega) hfu ⟨sc.rf, fun p hp => absurd hp (by omega)⟩
  · intro m q ⟨q1, q2⟩
    have V1 := V.sc q1
    have H1 := V1.H
    refine ⟨q, ?_, q1⟩
    rw [fX8_shortestWalk_2, if_pos (by decide), ef]
    refine lp (fun m k (o : Option Nat) => fX8_shortestWalk_35 m 0 (nI s) (enc o) (nI k) q) (fun k => wkB (wkOk T E i s) k) 64 _ ?_ ?_ fu 0 (by omega) hfu64
    · intro m
      rw [fX8_shortestWalk_35, if_pos (by decide)]
    · intro m k hk
      exact x_walkS H1 q2 hs hk (fun b hb => wkB_lt hb)
  · intro m p q hp ⟨q1, q2⟩
    have V1 := V.sc q1
    have H1 := V1.H
    refine ⟨uI q 74 p (nI (tae T E i p)), ⟨q1.tr (sc.uI (by unfold scr; omega)), fun p' hp' => ?_⟩, ?_⟩
    · by_cases c : p' = p
      · rw [c, uI_at]
      · rw [uI_ne (by omega)]; exact q2 p' (by omega)
    · rw [fX8_shortestWalk_2, if_neg (show ¬ (6 : Int32) ≤ nI p from nI_ge hp (by decide)), ck_t (sh_0 H1), rf_0_13 H1, br_s, rf_0_9 H1, br_s, ck_t (sh_28 H1), x_toldAt V1 hi hp, b2_s, ck_t (in_74 H1 hp), lt_d, nI_clamp (by omega), nI_1]
theorem m_walkS (H : gz_La h) {i r : Nat} (hi : i < 6) (hg : ∀ p, p < 6 → h.2.1 101 (6 * i + p) = nI (tae T E i p)) {s k m : Nat} (hs : s < 256) (hk : k < 64) {o : Option Nat} (ho : ∀ b, o = some b → b < k) : fX9_walk_36 (m + 1) 85 (nI i) (nI s) (nI r) (enc o) (nI k) h = fX9_walk_36 m 85 (nI i) (nI s) (nI r) (enc (if (wkOk T E i s k && wsh o k) = true then some k else o)) (nI (k + 1)) h := by
  have e3 := m_saidBy H hi hk hg
  have hsd : sd s (fo (fun p => if k.testBit p = true then tae T E i p else 0) 6) < 256 := sd_lt (c := 8) (by omega)
  have K : ∀ (kk : Nat → Int32 → Int32 → Int32 → Int32 → Int32 → gz_H → Option (Int32 × gz_H)) (c : Bool), fX9_walk_62 kk 85 (nI i) (nI s) (nI r) (enc o) (nI k) (if c = true then 1 else 0) h = kk 85 (nI i) (nI s) (nI r) (enc (if (c && wsh o k) = true then some k else o)) (nI (k + 1)) h := by
    intro kk c
    have K2 : ∀ d : Bool, fX9_walk_112 kk 85 (nI i) (nI s) (nI r) (enc o) (nI k) (if c = true then 1 else 0) (if d = true then 1 else 0) h = kk 85 (nI i) (nI s) (nI r) (enc (if (c && d) = true then some k else o)) (nI (k + 1)) h := by
      intro d
      unfold fX9_walk_112 fX9_walk_129 fX9_walk_131
      rw [nI_1]
      cases c <;> cases d <;> rfl
    have K0 := K2 false
    have K1 := K2 true
    unfold fX9_walk_62 fX9_walk_107 fX9_walk_111
    cases o with
    | none => rw [if_pos enc_n]; exact K1
    | some b =>
      have hb := ho b rfl
      have hw : wsh (some b) k = (decide (pc k < pc b) || (decide (pc k = pc b) && ahd k b)) := rfl
      have q1 := pc_le k
      have q2 := pc_le b
      rw [if_neg (enc_ne (by omega)), hw, t_bits (by omega), b2_s, show enc (some b) = nI b from rfl, t_bits (by omega), b2_s]
      by_cases c1 : pc k < pc b
      · rw [if_pos (nI_lt c1 (by omega)), decide_eq_true c1, Bool.true_or]
        exact K1
      · rw [if_neg (nI_nlt (by omega) (by omega)), decide_eq_false c1, Bool.false_or, t_bits (by omega), b2_s, t_bits (by omega), b2_s]
        by_cases c2 : pc k = pc b
        · rw [if_pos (congrArg nI c2), decide_eq_true c2, Bool.true_and]
          unfold fX9_isAhead fX9_isAhead_0 ahd
          by_cases c3 : ((nI k ^^^ nI b) &&& (-(nI k ^^^ nI b))) &&& nI k = 0
          · rw [if_pos c3, b2_s, if_pos rfl, decide_eq_false (fun z => z c3)]
            exact K0
          · rw [if_neg c3, b2_s, if_neg (by decide), decide_eq_true c3]
            exact K1
        · rw [if_neg (fun z => c2 ((nI_eq (by omega) (by omega)).mp z)), decide_eq_false c2, Bool.false_and]
          exact K0
  rw [fX9_walk_36, if_neg (show ¬ (64 : Int32) ≤ nI k from nI_ge hk (by decide)), ck_t (sh_85 H), e3, b2_s, nI_nand]
  unfold wkOk
  by_cases c : sd s (fo (fun p => if k.testBit p = true then tae T E i p else 0) 6) = 0
  · rw [if_pos ((nI_z (by omega)).mpr c), decide_eq_true c]
    exact K _ true
  · rw [if_neg (fun z => c ((nI_z (by omega)).mp z)), decide_eq_false c]
    exact K _ false
theorem sh_r (H : gz_La h) {r : Nat} (hr : r < 6) : h.1[3 + r]? = some (10, 40) := by
  match r, hr with
  | 0, _ => exact H.sh rfl
  | 1, _ => exact H.sh rfl
  | 2, _ => exact H.sh rfl
  | 3, _ => exact H.sh rfl
  | 4, _ => exact H.sh rfl
  | 5, _ => exact H.sh rfl
theorem x_fill (H : gz_La h) {r b : Nat} (hr : r < 6) (hb : b < 64) (z : ∀ j, j < 40 → h.2.1 (3 + r) j = 0) : ∃ h', fX8_walk_73 gz_fu 0 (nI r) (nI b) (0 : Int32) (0 : Int32) h = some (nI (wkN b 6), h') ∧ h'.1 = h.1 ∧ h'.2.2 = h.2.2 ∧ (∀ j, j < 40 → h'.2.1 (3 + r) j = wkC b 6 j) ∧ ∀ a k, a ≠ 3 + r → h'.2.1 a k = h.2.1 a k := by
  have hfu : 6 < 0 + gz_fu := by show 6 < 0 + 100000; omega
  generalize gz_fu = fu at hfu ⊢
  refine lpr (fun m p (q : gz_H) => fX8_walk_73 m 0 (nI r) (nI b) (nI (wkN b p)) (nI p) q) (fun p q => q.1 = h.1 ∧ q.2.2 = h.2.2 ∧ (∀ j, j < 40 → q.2.1 (3 + r) j = wkC b p j) ∧ ∀ a k, a ≠ 3 + r → q.2.1 a k = h.2.1 a k) 6 (fun x => ∃ h', x = some (nI (wkN b 6), h') ∧ h'.1 = h.1 ∧ h'.2.2 = h.2.2 ∧ (∀ j, j < 40 → h'.2.1 (3 + r) j = wkC b 6 j) ∧ ∀ a k, a ≠ 3 + r → h'.2.1 a k = h.2.1 a k) ?_ ?_ fu 0 h (by omega) hfu ⟨rfl, rfl, z, fun _ _ _ => rfl⟩
  · intro m q ⟨q1, q2, q3, q4⟩
    refine ⟨q, ?_, q1, q2, q3, q4⟩
    rw [fX8_walk_73, if_pos (by decide)]
  · intro m p q hp ⟨q1, q2, q3, q4⟩
    have H1 : gz_La q := H.of q1 (congrArg Prod.snd q2)
    have wl := wkN_le b p
    have eb : ((nI b >>> (nI p &&& 31)) &&& (1 : Int32)) = nI (if b.testBit p then 1 else 0) := nI_bit (by omega) (by omega)
    by_cases c : b.testBit p = true
    · refine ⟨uI q (3 + r) (wkN b p) (nI p), ⟨q1, q2, fun j hj => ?_, fun a k ha => by rw [uI_ne (by omega)]; exact q4 a k ha⟩, ?_⟩
      · rw [uI_I, wkC]
        by_cases d : j = wkN b p
        · rw [if_pos ⟨rfl, d⟩, if_pos ⟨c, d⟩]
        · rw [if_neg (fun z => d z.2), if_neg (fun z => d z.2)]; exact q3 j hj
      · rw [fX8_walk_73, if_neg (show ¬ (6 : Int32) ≤ nI p from nI_ge hp (by decide)), eb, if_pos c, if_neg (by decide), ck_t (sh_0 H1), rf_0_0 H1, br_s, ck_t (sh_1 H1), rf_1_1 H1, br_s, ck_t (in_2 H1 hr), nI_clamp (by omega), rf_2 H1 hr, br_s, ck_t (inb_nI (sh_r H1 hr) (by omega) (by decide)), lt_d]
        unfold fX8_walk_107
        rw [nI_clamp (by omega), nI_1, nI_1]
        show _ = fX8_walk_73 m 0 (nI r) (nI b) (nI (wkN b (p + 1))) (nI (p + 1)) _
        rw [wkN, if_pos c]
    · refine ⟨q, ⟨q1, q2, fun j hj => ?_, q4⟩, ?_⟩
      · rw [wkC, if_neg (fun z => c z.1)]; exact q3 j hj
      · rw [fX8_walk_73, if_neg (show ¬ (6 : Int32) ≤ nI p from nI_ge hp (by decide)), eb, if_neg c, if_pos (by decide)]
        unfold fX8_walk_107
        rw [nI_1]
        show _ = fX8_walk_73 m 0 (nI r) (nI b) (nI (wkN b (p + 1))) (nI (p + 1)) _
        rw [wkN, if_neg c]
theorem m_fill (H : gz_La h) {r b : Nat} (hr : r < 6) (hb : b < 64) (z : ∀ j, j < 40 → h.2.1 92 (40 * r + j) = 0) : ∃ h', fX9_walk_165 gz_fu 85 (nI r) (nI b) (0 : Int32) (0 : Int32) h = some (nI (wkN b 6), h') ∧ h'.1 = h.1 ∧ h'.2.2 = h.2.2 ∧ (∀ j, j < 40 → h'.2.1 92 (40 * r + j) = wkC b 6 j) ∧ ∀ a k, a ≠ 92 ∨ k < 40 * r ∨ 40 * r + 40 ≤ k → h'.2.1 a k = h.2.1 a k := by
  have hfu : 6 < 0 + gz_fu := by show 6 < 0 + 100000; omega
  generalize gz_fu = fu at hfu ⊢
  refine lpr (fun m p (q : gz_H) => fX9_walk_165 m 85 (nI r) (nI b) (nI (wkN b p)) (nI p) q) (fun p q => q.1 = h.1 ∧ q.2.2 = h.2.2 ∧ (∀ j, j < 40 → q.2.1 92 (40 * r + j) = wkC b p j) ∧ ∀ a k, a ≠ 92 ∨ k < 40 * r ∨ 40 * r + 40 ≤ k → q.2.1 a k = h.2.1 a k) 6 (fun x => ∃ h', x = some (nI (wkN b 6), h') ∧ h'.1 = h.1 ∧ h'.2.2 = h.2.2 ∧ (∀ j, j < 40 → h'.2.1 92 (40 * r + j) = wkC b 6 j) ∧ ∀ a k, a ≠ 92 ∨ k < 40 * r ∨ 40 * r + 40 ≤ k → h'.2.1 a k = h.2.1 a k) ?_ ?_ fu 0 h (by omega) hfu ⟨rfl, rfl, z, fun _ _ _ => rfl⟩
  · intro m q ⟨q1, q2, q3, q4⟩
    refine ⟨q, ?_, q1, q2, q3, q4⟩
    rw [fX9_walk_165, if_pos (by decide)]
  · intro m p q hp ⟨q1, q2, q3, q4⟩
    have H1 : gz_La q := H.of q1 (congrArg Prod.snd q2)
    have wl := wkN_le b p
    have eb : fX9_has (nI b) (nI p) q = some (nI (if b.testBit p then 1 else 0), q) := t_has (by omega) (by omega)
    by_cases c : b.testBit p = true
    · refine ⟨uI q 92 (40 * r + wkN b p) (nI p), ⟨q1, q2, fun j hj => ?_, fun a k ha => by rw [uI_ne (by omega)]; exact q4 a k ha⟩, ?_⟩
      · rw [uI_I, wkC]
        by_cases d : j = wkN b p
        · rw [if_pos ⟨rfl, by omega⟩, if_pos ⟨c, d⟩]
        · rw [if_neg (fun z => d (by omega)), if_neg (fun z => d z.2)]; exact q3 j hj
      · rw [fX9_walk_165, if_neg (show ¬ (6 : Int32) ≤ nI p from nI_ge hp (by decide)), eb, if_pos c, b2_s, if_neg (by decide), ck_t (sh_85 H1), rf_85_8 H1, br_s, show (40 : Int32) = nI 40 from rfl, n_mul, ck_t (in_92 H1 (by omega)), lt_d]
        unfold fX9_walk_199
        rw [nI_clamp (by omega), nI_1, nI_1]
        show _ = fX9_walk_165 m 85 (nI r) (nI b) (nI (wkN b (p + 1))) (nI (p + 1)) _
        rw [wkN, if_pos c]
    · refine ⟨q, ⟨q1, q2, fun j hj => ?_, q4⟩, ?_⟩
      · rw [wkC, if_neg (fun z => c z.1)]; exact q3 j hj
      · rw [fX9_walk_165, if_neg (show ¬ (6 : Int32) ≤ nI p from nI_ge hp (by decide)), eb, if_neg c, b2_s, if_pos (by decide)]
        unfold fX9_walk_199
        rw [nI_1]
        show _ = fX9_walk_165 m 85 (nI r) (nI b) (nI (wkN b (p + 1))) (nI (p + 1)) _
        rw [wkN, if_neg c]
theorem rw_end {h1 h2 : gz_H} (I : gz_Iv h) {r n : Nat} (hr : r < 6) (hn : n ≤ 40) {c : Nat → Int32} (a1 : h1.1 = h.1) (a2 : h1.2.2 = h.2.2) (a3 : ∀ a k, a ≠ 3 + r → (a ≠ 9 ∨ k ≠ r) → ¬ scr a k → h1.2.1 a k = h.2.1 a k) (a4 : h1.2.1 9 r = nI n) (a5 : ∀ k, k < 40 → h1.2.1 (3 + r) k = c k) (b1 : h2.1 = h1.1) (b2 : h2.2.2 = h1.2.2) (b3 : ∀ a k, (a ≠ 91 ∨ k ≠ r) → (a ≠ 92 ∨ k < 40 * r ∨ 40 * r + 40 ≤ k) → ¬ scr a k → h2.2.1 a k = h1.2.1 a k) (b4 : h2.2.1 91 r = nI n) (b5 : ∀ k, k < 40 → h2.2.1 92 (40 * r + k) = c k) : gz_Iv h2 := by
  have o : ∀ a k, a ≠ 3 + r → (a ≠ 9 ∨ k ≠ r) → (a ≠ 91 ∨ k ≠ r) → (a ≠ 92 ∨ k < 40 * r ∨ 40 * r + 40 ≤ k) → ¬ scr a k → h2.2.1 a k = h.2.1 a k := fun a k q1 q2 q3 q4 q5 => by rw [b3 a k q3 q4 q5, a3 a k q1 q2 q5]
  unfold scr at o b3
  have e1 := b1.trans a1
  have e2 := b2.trans a2
  obtain ⟨H, Fx, Rw, Tx, Sc⟩ := I.1
  have S : gz_St h h2 := by
    refine ⟨⟨H.of e1 (congrArg Prod.snd e2), Fx.cg (fun a k q => o a k (by omega) (by omega) (by omega) (by omega) (by omega)), ?_, Tx.cg (fun a k q => o a k (by omega) (by omega) (by omega) (by omega) (by omega)), Sc.cg (fun a k q => o a k (by omega) (by omega) (by omega) (by omega) (by omega)) (congrArg Prod.fst e2)⟩, congrArg Prod.snd e2, fun a k q => ?_⟩
    · intro r' hr'
      by_cases c : r' = r
      · subst c
        rw [b3 9 r' (by omega) (by omega) (by omega), a4, b4]
        refine ⟨rfl, Or.inr ⟨n, hn, rfl⟩, fun k hk => ?_⟩
        rw [b5 k hk, b3 (3 + r') k (by omega) (by omega) (by omega), a5 k hk]
      · obtain ⟨t1, t2, t3⟩ := Rw r' hr'
        rw [o 9 r' (by omega) (by omega) (by omega) (by omega) (by omega), o 91 r' (by omega) (by omega) (by omega) (by omega) (by omega)]
        refine ⟨t1, t2, fun k hk => ?_⟩
        rw [o (3 + r') k (by omega) (by omega) (by omega) (by omega) (by omega), o 92 (40 * r' + k) (by omega) (by omega) (by omega) (by omega) (by omega)]
        exact t3 k hk
    · unfold gz_ff at q
      exact o a k (by omega) (by omega) (by omega) (by omega) (by omega)
  exact S.iv I
theorem op_walk (I : gz_Iv h) (x1 x2 x3 : Int32) : gz_ag (fX8_walk 0 x1 x2 x3) (fX9_walk 85 x1 x2 x3) h gz_Iv := by
  obtain ⟨T, D, ds, ks, sa, F⟩ := I.2
  have V := F.xv I.1.1
  have W := F.mv I.1.1
  have H := V.H
  have b := V.b
  have p1 := p2_lt b.1
  have S := H.rows I.1.2.1
  rcases p_cases x1 T.2.1 (by omega) with hx | ⟨i, hi, rfl⟩
  · refine ag_no I (y := -1) ?_ ?_
    · unfold fX8_walk fX8_walk_0
      rw [ck_t (sh_0 H), rf_0_9 H, br_s, ck_t (sh_28 H), x_goose_out V hx, b2_s, if_pos (by decide)]
    · unfold fX9_walk fX9_walk_0
      rw [ck_t (sh_85 H), m_goose_out W hx, b2_s, if_pos (by decide)]
  rcases p_cases x2 (2 ^ T.1) (by omega) with hx | ⟨s, hs, rfl⟩
  · refine ag_no I (y := -1) ?_ ?_
    · unfold fX8_walk fX8_walk_0
      rw [ck_t (sh_0 H), rf_0_9 H, br_s, ck_t (sh_28 H), x_goose_in V hi, b2_s, if_neg (by decide), ck_t (sh_0 H), rf_0_9 H, br_s, ck_t (sh_28 H), x_fset_out V hx, b2_s, if_pos (by decide)]
    · unfold fX9_walk fX9_walk_0
      rw [ck_t (sh_85 H), m_goose_in W hi, b2_s, if_neg (by decide), ck_t (sh_85 H), m_set_out W hx, b2_s, if_pos (by decide)]
  rcases p_cases x3 6 (by omega) with hx | ⟨r, hr, rfl⟩
  · refine ag_no I (y := -1) ?_ ?_
    · unfold fX8_walk fX8_walk_0
      rw [ck_t (sh_0 H), rf_0_9 H, br_s, ck_t (sh_28 H), x_goose_in V hi, b2_s, if_neg (by decide), ck_t (sh_0 H), rf_0_9 H, br_s, ck_t (sh_28 H), x_fset_in V hs, b2_s, if_neg (by decide), ck_t (sh_0 H), rf_0_0 H, br_s, ck_t (sh_1 H), p_knows_out S hx, b2_s, if_pos (by decide)]
    · unfold fX9_walk fX9_walk_0
      rw [ck_t (sh_85 H), m_goose_in W hi, b2_s, if_neg (by decide), ck_t (sh_85 H), m_set_in W hs, b2_s, if_neg (by decide), p_isRow_out hx, b2_s, if_pos (by decide)]
  obtain ⟨h1, e1, s1⟩ := x_walkL V hi (s := s) (by omega)
  have V1 := V.sc s1
  have H1 := V1.H
  have S1 := H1.rows (s1.st I.1).1.2.1
  have M : ∀ q, MV q T (rn T D ds) → ∃ q', sc q q' ∧ SY T (rn T D ds) q' T.2.1 ∧ fX9_walk 85 (nI i) (nI s) (nI r) q = fX9_walk_36 gz_fu 85 (nI i) (nI s) (nI r) (-9 : Int32) (0 : Int32) q' := by
    intro q Wq
    have Hq := Wq.H
    obtain ⟨q', e, s', sy⟩ := m_laySays Wq
    refine ⟨q', s', sy, ?_⟩
    unfold fX9_walk fX9_walk_0
    rw [ck_t (sh_85 Hq), m_goose_in Wq hi, b2_s, if_neg (by decide), ck_t (sh_85 Hq), m_set_in Wq hs, b2_s, if_neg (by decide), p_isRow_in hr, b2_s, if_neg (by decide), ck_t (sh_85 Hq), e, b2_s]
  have L : ∀ q : gz_H, gz_La q → SY T (rn T D ds) q T.2.1 → fX9_walk_36 gz_fu 85 (nI i) (nI s) (nI r) (-9 : Int32) (0 : Int32) q = if enc (wkB (wkOk T (rn T D ds) i s) 64) = (-9 : Int32) then some (-9, q) else gz_b2 (fX9_bits (enc (wkB (wkOk T (rn T D ds) i s) 64)) q) (fun y_4 h_3 => gz_ck (gz_sh h_3 85 9 29) (gz_b2 (fX9_makeRow 85 (nI r) y_4 h_3) fun _ h_5 => fX9_walk_165 gz_fu 85 (nI r) (enc (wkB (wkOk T (rn T D ds) i s) 64)) (0 : Int32) (0 : Int32) h_5)) := by
    intro q Hq sy
    have hfu : 64 < 0 + gz_fu := by show 64 < 0 + 100000; omega
    generalize ef : gz_fu = fu at hfu
    refine lp (fun m k (o : Option Nat) => fX9_walk_36 m 85 (nI i) (nI s) (nI r) (enc o) (nI k) q) (fun k => wkB (wkOk T (rn T D ds) i s) k) 64 _ ?_ ?_ fu 0 (by omega) hfu
    · intro m
      rw [fX9_walk_36, if_pos (by decide), ef]
    · intro m k hk
      exact m_walkS Hq (by omega) (fun p hp => sy i p hi hp) (by omega) hk (fun b hb => wkB_lt hb)
  have X : ∀ y, enc (wkB (wkOk T (rn T D ds) i s) 64) = y → fX8_walk 0 (nI i) (nI s) (nI r) h = if y = (-9 : Int32) then some (-9, h1) else gz_ck (gz_sh h1 0 8 19) (gz_br (h1.2.2.2 0 0) fun r_24 => gz_b2 (fJ6_bitCount_0f7a4 y h1) fun y_26 h_25 => gz_ck (gz_sh h_25 r_24 7 3) (gz_b2 (fX7_make r_24 (nI r) y_26 (0 : Int32) h_25) fun _ h_27 => fX8_walk_73 gz_fu 0 (nI r) y (0 : Int32) (0 : Int32) h_27)) := by
    intro y ey
    rw [ey] at e1
    unfold fX8_walk fX8_walk_0
    rw [ck_t (sh_0 H), rf_0_9 H, br_s, ck_t (sh_28 H), x_goose_in V hi, b2_s, if_neg (by decide), ck_t (sh_0 H), rf_0_9 H, br_s, ck_t (sh_28 H), x_fset_in V hs, b2_s, if_neg (by decide), ck_t (sh_0 H), rf_0_0 H, br_s, ck_t (sh_1 H), p_knows_in S hr, b2_s, if_neg (by decide), ck_t (sh_0 H), e1, b2_s]
  have W1 := W.sc s1
  cases e : wkB (wkOk T (rn T D ds) i s) 64 with
  | none =>
    obtain ⟨q', s', sy, eq⟩ := M h1 W1
    rw [L q' (s'.la H1) sy, e, if_pos enc_n] at eq
    refine q_same I (v := -9) fun _ _ _ _ => ⟨h1, q', ?_, s1, eq, s'⟩
    rw [X _ (by rw [e]), if_pos enc_n]
  | some c =>
    have hc := wkB_lt e
    have hpc := pc_le c
    have nc : ¬ enc (some c) = (-9 : Int32) := enc_ne (by omega)
    generalize hx2 : uI (uF h1 (3 + r) (fun j => if j < 40 then 0 else h1.2.1 (3 + r) j)) 9 r (nI (pc c)) = x2
    have x21 : x2.1 = h1.1 := by rw [← hx2]; rfl
    have x22 : x2.2.2 = h1.2.2 := by rw [← hx2]; rfl
    have x2r : ∀ j, j < 40 → x2.2.1 (3 + r) j = 0 := fun j hj => by rw [← hx2, uI_ne (by omega), uF_I, if_pos rfl, if_pos hj]
    have x2o : ∀ a k, a ≠ 3 + r → (a ≠ 9 ∨ k ≠ r) → x2.2.1 a k = h1.2.1 a k := fun a k q1 q2 => by rw [← hx2, uI_ne (by omega), uF_ne q1]
    have x29 : x2.2.1 9 r = nI (pc c) := by rw [← hx2, uI_at]
    obtain ⟨x3, f1, f2, f3, f4, f5⟩ := x_fill (H1.of x21 (congrArg Prod.snd x22)) hr hc x2r
    have H3 : gz_La x3 := H1.of (f2.trans x21) (congrArg Prod.snd (f3.trans x22))
    have o3 : ∀ a k, a ≠ 3 + r → (a ≠ 9 ∨ k ≠ r) → x3.2.1 a k = h1.2.1 a k := fun a k q1 q2 => by rw [f5 a k q1, x2o a k q1 q2]
    have W3 : MV x3 T (rn T D ds) := W1.kp ⟨f2.trans x21, congrArg Prod.snd (f3.trans x22), fun a k q => by unfold gz_ff at q; exact o3 a k (by omega) (by omega)⟩
    obtain ⟨q', s', sy, eq⟩ := M x3 W3
    have Hq := s'.la H3
    rw [L q' Hq sy, e, if_neg nc, show enc (some c) = nI c from rfl, t_bits (by omega), b2_s, ck_t (sh_85 Hq), m_mkRow Hq hr, b2_s] at eq
    generalize hm2 : uF (uI q' 91 r (nI (pc c))) 92 (fun k => if 40 * r ≤ k ∧ k < 40 * r + 40 then 0 else q'.2.1 92 k) = m2 at eq
    have m21 : m2.1 = q'.1 := by rw [← hm2]; rfl
    have m22 : m2.2.2 = q'.2.2 := by rw [← hm2]; rfl
    have m2r : ∀ j, j < 40 → m2.2.1 92 (40 * r + j) = 0 := fun j hj => by rw [← hm2, uF_I, if_pos rfl, if_pos (by omega)]
    have m2o : ∀ a k, (a ≠ 91 ∨ k ≠ r) → (a ≠ 92 ∨ k < 40 * r ∨ 40 * r + 40 ≤ k) → m2.2.1 a k = q'.2.1 a k := fun a k q1 q2 => by
      rw [← hm2, uF_I]
      by_cases z : a = 92
      · rw [if_pos z, if_neg (by omega), z]
      · rw [if_neg z, uI_ne (by omega)]
    have m29 : m2.2.1 91 r = nI (pc c) := by rw [← hm2, uF_I, if_neg (by omega), uI_at]
    obtain ⟨m3, g1, g2, g3, g4, g5⟩ := m_fill (Hq.of m21 (congrArg Prod.snd m22)) hr hc m2r
    rw [g1] at eq
    refine ⟨nI (wkN c 6), x3, m3, ?_, H3.1, eq, rw_end I hr (n := pc c) (by omega) (f2.trans (x21.trans s1.1)) (f3.trans (x22.trans s1.2.1)) (fun a k q1 q2 q3 => by rw [o3 a k q1 q2, s1.2.2 a k q3]) (by rw [f5 9 r (by omega)]; exact x29) f4 (g2.trans (m21.trans s'.1)) (g3.trans (m22.trans s'.2.1)) (fun a k q1 q2 q3 => by rw [g5 a k q2, m2o a k q1 q2, s'.2.2 a k q3]) (by rw [g5 91 r (by omega)]; exact m29) g4⟩
    rw [X _ (by rw [e]), if_neg nc, ck_t (sh_0 H1), rf_0_0 H1, br_s]
    show gz_b2 (fJ6_bitCount_0f7a4 (nI c) h1) _ = _
    rw [t_bc (by omega), b2_s, ck_t (sh_1 H1), p_make S1 hr, b2_s, hx2]
    exact f1
end
