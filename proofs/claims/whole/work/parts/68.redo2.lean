/-! PURE: undo, keep, on: the operations -/
section
variable {h : gz_H} {T : gz_T} {D : gz_D}
theorem n_le0 {n : Nat} (h0 : 0 < n) (hn : n < 2 ^ 31) : ¬ nI n ≤ (0 : Int32) := fun z => by
  rw [Int32.le_iff_toInt_le, nI_toInt hn] at z
  have z : (n : Int) ≤ 0 := z
  omega
theorem nI_z {n : Nat} (hn : n < 2 ^ 31) : nI n = (0 : Int32) ↔ n = 0 := nI_eq (b := 0) hn (by decide)
theorem m_in_le {j n : Nat} (hj : j ≤ n) (hn : n < 2 ^ 31) : fX9_in (nI j).toInt64 (0 : Int64) (nI n).toInt64 h = some (1, h) := by
  rw [p_in, if_pos (by rw [l_of, nI_toInt (by omega), nI_toInt (by omega)]; exact ⟨by simp, by omega⟩)]
theorem m_in_gt {x : Int32} {n : Nat} (hx : p_out x (n + 1)) (hn : n + 1 < 2 ^ 31) : fX9_in x.toInt64 (0 : Int64) (nI n).toInt64 h = some (0, h) := by
  have := p_out_toInt hn hx
  rw [p_in, if_neg (by rw [l_of, nI_toInt (by omega)]; intro z; have z1 : (0 : Int) ≤ x.toInt := z.1; omega)]
theorem m_undoL (H : gz_La h) {j n : Nat} (hj : j < n) (hn : n ≤ 40) : ∃ h', fX9_undo_29 gz_fu 85 (nI j) (nI (n - j)) (0 : Int32) h = some (nI (n - j), h') ∧ h'.1 = h.1 ∧ h'.2.2 = h.2.2 ∧ h'.2.1 86 0 = nI j ∧ (∀ k, k < 55 → h'.2.1 86 (1 + k) = h.2.1 86 (56 + 55 * j + k)) ∧ ∀ a k, a ≠ 86 ∨ 56 ≤ k → h'.2.1 a k = h.2.1 a k := by
  have hfu : 55 < 0 + gz_fu := by show 55 < 0 + 100000; omega
  generalize gz_fu = fu at hfu ⊢
  refine lpr (fun m k (s : gz_H) => fX9_undo_29 m 85 (nI j) (nI (n - j)) (nI k) s) (fun k s => s.1 = h.1 ∧ s.2.2 = h.2.2 ∧ (∀ q, q < k → s.2.1 86 (1 + q) = h.2.1 86 (56 + 55 * j + q)) ∧ ∀ a q, a ≠ 86 ∨ 56 ≤ q → s.2.1 a q = h.2.1 a q) 55 (fun r => ∃ h', r = some (nI (n - j), h') ∧ h'.1 = h.1 ∧ h'.2.2 = h.2.2 ∧ h'.2.1 86 0 = nI j ∧ (∀ k, k < 55 → h'.2.1 86 (1 + k) = h.2.1 86 (56 + 55 * j + k)) ∧ ∀ a k, a ≠ 86 ∨ 56 ≤ k → h'.2.1 a k = h.2.1 a k) ?_ ?_ fu 0 h (by omega) hfu ⟨rfl, rfl, fun q hq => absurd hq (by omega), fun a q _ => rfl⟩
  · intro m s ⟨s1, s2, s3, s4⟩
    have H1 : gz_La s := H.of s1 (congrArg Prod.snd s2)
    refine ⟨uI s 86 0 (nI j), ?_, s1, s2, uI_at, fun k hk => by rw [uI_ne (by omega)]; exact s3 k hk, fun a k q => by rw [uI_ne (by omega)]; exact s4 a k q⟩
    rw [fX9_undo_29, if_pos (show (55 : Int32) ≤ nI 55 by decide)]
    unfold fX9_undo_67
    simp (disch := first | assumption | omega | trivial | rfl) only [ck_1, br_s, b2_s, bi_s, lt_d, bo_0, bo_1, lt_d, uI_1, uI_R, uI_L, uF_1, uF_R, uF_L, uL_1, uL_I, uL_R, uR_1, uR_I, uR_L, inb_uI, inb_uF, inb_uL, inb_uR, len_uI, len_uF, sh_uI, sh_uF, sh_uL, sh_uR, rf_0_0, rf_0_1, rf_0_2, rf_0_3, rf_0_4, rf_0_5, rf_0_6, rf_0_7, rf_0_8, rf_0_9, rf_0_12, rf_0_13, rf_0_14, rf_0_15, rf_0_16, rf_0_17, rf_1_1, rf_1_2, rf_10_1, rf_10_2, rf_18_0, rf_21_0, rf_23_0, rf_25_0, rf_79_0, rf_81_0, rf_83_0, rf_28_0, rf_28_1, rf_31_0, rf_33_0, rf_35_0, rf_37_0, rf_39_0, rf_41_0, rf_43_0, rf_43_1, rf_46_0, rf_48_0, rf_50_0, rf_52_0, rf_54_0, rf_56_0, rf_58_0, rf_58_1, rf_61_0, rf_63_0, rf_65_0, rf_67_0, rf_69_0, rf_71_0, rf_85_0, rf_85_2, rf_85_4, rf_85_5, rf_85_6, rf_85_7, rf_85_8, rf_85_9, rf_85_10, rf_85_15, rf_85_19, rf_85_21, rf_85_22, rf_85_23, rf_85_26, rf_85_27, rf_85_28, rf_2, rf_11, rf_30, rf_45, rf_60, rf_27, sgr_31, sgr_46, sgr_61, slr_79, in_2, in_9, ln_9, in_11, in_16, ln_16, in_19, ln_19, in_22, ln_22, in_24, ln_24, in_26, ln_26, in_27, in_29, ln_29, in_30, in_44, ln_44, in_45, in_59, ln_59, in_60, in_73, ln_73, in_74, ln_74, in_75, ln_75, in_76, ln_76, in_77, ln_77, in_78, ln_78, in_80, ln_80, in_82, ln_82, in_84, ln_84, in_86, ln_86, in_87, ln_87, in_88, ln_88, in_89, ln_89, in_90, ln_90, in_91, ln_91, in_92, ln_92, in_93, ln_93, in_94, ln_94, in_95, ln_95, in_96, ln_96, in_97, ln_97, in_98, ln_98, in_99, ln_99, in_100, ln_100, in_101, ln_101, in_102, ln_102, sh_0, sh_1, sh_10, sh_17, sh_18, sh_20, sh_21, sh_23, sh_25, sh_28, sh_43, sh_58, sh_79, sh_81, sh_83, sh_85, sgk_31, sgi_31, sgk_46, sgi_46, sgk_61, sgi_61, slk_79, sli_79, ini_rw, ini_tx, li_0, li_1, li_2, li_3, li_4, li_5, li_6, li_7, li_8, li_9, li_10, li_11, li_12, li_13, li_14, li_15, li_16, li_31, li_32, li_36, li_40, li_48, li_53, li_55, li_56, li_57, li_58, li_60, li_63, li_64, li_80, li_97, li_98, li_99, li_100, li_103, li_104, li_108, li_115, li_116, li_118, li_200, li_256, li_1000, li_2256, not_true_eq_false, not_false_eq_true, Bool.false_eq_true, if_true, if_false, Nat.or_zero, Nat.zero_or, pk_rem, nI_m31, nI_sl, nI_bt, nI_or, nI_sub', nI_n9, nI_9n, nI_n1, bo_n0, bo_n1, bo_if, nI_if, nI_if0, nI_if1, if_10, if_11, t_bits, t_bc, t_has, nI_clamp, nI_add, pk_mul, pk_sub, nI_eq, nI_leI, nI_ltI, if_pos, if_neg, uI_at, uI_to, uI_ne, uF_at, uF_ne]
  · intro m k s hk ⟨s1, s2, s3, s4⟩
    have H1 : gz_La s := H.of s1 (congrArg Prod.snd s2)
    have e2 : s.2.1 86 (56 + 55 * j + k) = h.2.1 86 (56 + 55 * j + k) := s4 86 _ (by omega)
    refine ⟨uI s 86 (1 + k) (h.2.1 86 (56 + 55 * j + k)), ⟨s1, s2, fun q hq => ?_, fun a q z => by rw [uI_ne (by omega)]; exact s4 a q z⟩, ?_⟩
    · by_cases c : q = k
      · rw [c, uI_at]
      · rw [uI_ne (by omega)]; exact s3 q (by omega)
    · rw [fX9_undo_29, if_neg (show ¬ (55 : Int32) ≤ nI k from nI_ge hk (by decide)), if_neg (n_le0 (by omega) (by omega))]
      simp (disch := first | assumption | omega | trivial | rfl) only [ck_1, br_s, b2_s, bi_s, lt_d, bo_0, bo_1, lt_d, uI_1, uI_R, uI_L, uF_1, uF_R, uF_L, uL_1, uL_I, uL_R, uR_1, uR_I, uR_L, inb_uI, inb_uF, inb_uL, inb_uR, len_uI, len_uF, sh_uI, sh_uF, sh_uL, sh_uR, rf_0_0, rf_0_1, rf_0_2, rf_0_3, rf_0_4, rf_0_5, rf_0_6, rf_0_7, rf_0_8, rf_0_9, rf_0_12, rf_0_13, rf_0_14, rf_0_15, rf_0_16, rf_0_17, rf_1_1, rf_1_2, rf_10_1, rf_10_2, rf_18_0, rf_21_0, rf_23_0, rf_25_0, rf_79_0, rf_81_0, rf_83_0, rf_28_0, rf_28_1, rf_31_0, rf_33_0, rf_35_0, rf_37_0, rf_39_0, rf_41_0, rf_43_0, rf_43_1, rf_46_0, rf_48_0, rf_50_0, rf_52_0, rf_54_0, rf_56_0, rf_58_0, rf_58_1, rf_61_0, rf_63_0, rf_65_0, rf_67_0, rf_69_0, rf_71_0, rf_85_0, rf_85_2, rf_85_4, rf_85_5, rf_85_6, rf_85_7, rf_85_8, rf_85_9, rf_85_10, rf_85_15, rf_85_19, rf_85_21, rf_85_22, rf_85_23, rf_85_26, rf_85_27, rf_85_28, rf_2, rf_11, rf_30, rf_45, rf_60, rf_27, sgr_31, sgr_46, sgr_61, slr_79, in_2, in_9, ln_9, in_11, in_16, ln_16, in_19, ln_19, in_22, ln_22, in_24, ln_24, in_26, ln_26, in_27, in_29, ln_29, in_30, in_44, ln_44, in_45, in_59, ln_59, in_60, in_73, ln_73, in_74, ln_74, in_75, ln_75, in_76, ln_76, in_77, ln_77, in_78, ln_78, in_80, ln_80, in_82, ln_82, in_84, ln_84, in_86, ln_86, in_87, ln_87, in_88, ln_88, in_89, ln_89, in_90, ln_90, in_91, ln_91, in_92, ln_92, in_93, ln_93, in_94, ln_94, in_95, ln_95, in_96, ln_96, in_97, ln_97, in_98, ln_98, in_99, ln_99, in_100, ln_100, in_101, ln_101, in_102, ln_102, sh_0, sh_1, sh_10, sh_17, sh_18, sh_20, sh_21, sh_23, sh_25, sh_28, sh_43, sh_58, sh_79, sh_81, sh_83, sh_85, sgk_31, sgi_31, sgk_46, sgi_46, sgk_61, sgi_61, slk_79, sli_79, ini_rw, ini_tx, li_0, li_1, li_2, li_3, li_4, li_5, li_6, li_7, li_8, li_9, li_10, li_11, li_12, li_13, li_14, li_15, li_16, li_31, li_32, li_36, li_40, li_48, li_53, li_55, li_56, li_57, li_58, li_60, li_63, li_64, li_80, li_97, li_98, li_99, li_100, li_103, li_104, li_108, li_115, li_116, li_118, li_200, li_256, li_1000, li_2256, not_true_eq_false, not_false_eq_true, Bool.false_eq_true, if_true, if_false, Nat.or_zero, Nat.zero_or, pk_rem, nI_m31, nI_sl, nI_bt, nI_or, nI_sub', nI_n9, nI_9n, nI_n1, bo_n0, bo_n1, bo_if, nI_if, nI_if0, nI_if1, if_10, if_11, t_bits, t_bc, t_has, nI_clamp, nI_add, pk_mul, pk_sub, nI_eq, nI_leI, nI_ltI, if_pos, if_neg, uI_at, uI_to, uI_ne, uF_at, uF_ne, e2]
theorem mb_undo {h h' : gz_H} {ds : List gz_De} (w : wsT T) (g : gl T D ds) (x : mb h 0 T D ds) {j : Nat} (hj : j < ds.length) (e0 : h'.2.1 86 0 = nI j) (e1 : ∀ k, k < 55 → h'.2.1 86 (1 + k) = h.2.1 86 (56 + 55 * j + k)) (e2 : ∀ k, 56 ≤ k → h'.2.1 86 k = h.2.1 86 k) : mb h' 0 T D (ds.take j) := by
  obtain ⟨x1, x2, x3⟩ := x
  have hl := g.1
  have wl : ∀ n, n ≤ ds.length → ∀ i, i < T.2.1 → (rn T D (ds.take n) i).1.length ≤ 8 := fun n hn i hi => Nat.le_trans (g.2.2.1 n hn i hi).1 (w.bi i hi).2.2.1
  have tl : (ds.take j).length = j := by rw [List.length_take]; omega
  refine ⟨by rw [tl]; exact e0, mv_mov w.2.1 (wl j (by omega)) (x3 j hj) (fun k hk => ?_), fun n hn => ?_⟩
  · rw [show 0 + 1 + k = 1 + k by omega, show 0 + 55 + 55 * j + 1 + k = 56 + 55 * j + k by omega]
    exact e1 k hk
  · rw [tl] at hn
    rw [List.take_take, Nat.min_eq_left (by omega)]
    exact mv_mov w.2.1 (wl n (by omega)) (x3 n (by omega)) (fun k hk => e2 _ (by omega))
theorem lgv_take {ds : List gz_De} (L : lgv h 25 ds) {j : Nat} (hj : j ≤ ds.length) : lgv (uI h 25 1 (nI j)) 25 (ds.take j) := by
  have tl : (ds.take j).length = j := by rw [List.length_take]; omega
  refine ⟨by rw [uI_at, tl], fun k hk => ?_⟩
  rw [tl] at hk
  rw [uI_ne (by omega), List.getD_eq_getElem?_getD, List.getElem?_take_of_lt hk, ← List.getD_eq_getElem?_getD]
  exact L.2 k (by omega)
theorem fN.fA {h h' : gz_H} (f : fN h h') : fA h h' := ⟨f.1, f.2.1, fun a k q => f.2.2 a k (by omega)⟩
theorem fA.tr {h h1 h2 : gz_H} (a : fA h h1) (b : fA h1 h2) : fA h h2 := ⟨b.1.trans a.1, b.2.1.trans a.2.1, fun x k e => (b.2.2 x k e).trans (a.2.2 x k e)⟩
theorem op_undo (I : gz_Iv h) (x1 : Int32) : gz_ag (fX8_undo 0 x1) (fX9_undo 85 x1) h gz_Iv := by
  obtain ⟨T, D, ds, ks, sa, F⟩ := I.2
  have V := F.xv I.1.1
  have H := V.H
  have w := V.2.1
  have g := F.1.2.2.2.1
  have hl := g.1
  have L := F.2.2.1.2.2.1
  have mm := F.2.2.2.2.1
  have m0 := mm.1
  have c0 : (0 : Int32).toNatClampNeg = 0 := rfl
  rcases p_cases x1 (ds.length + 1) (by omega) with hx | ⟨j, hj, rfl⟩
  · refine ag_no I (y := -1) ?_ ?_
    · unfold fX8_undo fX8_undo_0
      by_cases c : x1 < 0
      · rw [if_pos c]
      · have h1 := hx.resolve_left c
        rw [if_neg c, ck_t (sh_0 H), rf_0_7 H, br_s, ck_t (sh_25 H), L.1, if_neg (by rw [Int32.le_iff_toInt_le, nI_toInt (by omega)] at h1 ⊢; omega)]
    · unfold fX9_undo fX9_undo_0
      rw [ck_t (sh_85 H), rf_85_0 H, br_s, ck_t (show gz_inb h 86 10 (0 : Int32) = true from in_86 H (j := 0) (by decide)), c0, m0, m_in_gt hx (by omega), b2_s, if_pos (by decide)]
  · have hj' : j ≤ ds.length := by omega
    have H6 : gz_La (uI h 25 1 (nI j)) := H.of rfl rfl
    have x6 : xv (uI h 25 1 (nI j)) sa T D := F.2.2.1.1.cg w.2.1 rfl rfl (fun a k q1 q2 => uI_ne (by have := F.2.1.1; omega))
    obtain ⟨h1, e1, V1, f1⟩ := x_repeat H6 w F.1.2.1 F.2.1.1 F.2.1.2.1 x6 (lgv_take L hj') (gl_take g j)
    have fa1 : fA h h1 := fA.tr (h1 := uI h 25 1 (nI j)) ⟨rfl, rfl, fun a k q => uI_ne (by omega)⟩ f1.fA
    have H1 := V1.H
    have L1 : lgv h1 25 (ds.take j) := (lgv_take L hj').cg (fun a k q1 q2 => f1.2.2 a k (by omega))
    have mm1 : mb h1 0 T D ds := mm.cg (fun k => fa1.2.2 86 k (by omega))
    have X : fX8_undo 0 (nI j) h = some (nI (ds.length - j), h1) := by
      unfold fX8_undo fX8_undo_0
      rw [if_neg (nI_pos (by omega)), ck_t (sh_0 H), rf_0_7 H, br_s, ck_t (sh_25 H), L.1, if_pos (nI_le hj' (by omega)), lt_d, ck_t (sh_0 H6), e1, b2_s, pk_sub hj']
    have M : fX9_undo 85 (nI j) h1 = fX9_undo_29 gz_fu 85 (nI j) (nI (ds.length - j)) (0 : Int32) h1 := by
      unfold fX9_undo fX9_undo_0
      rw [ck_t (sh_85 H1), rf_85_0 H1, br_s, ck_t (show gz_inb h1 86 10 (0 : Int32) = true from in_86 H1 (j := 0) (by decide)), c0, mm1.1, m_in_le hj' (by omega), b2_s, if_neg (by decide), ck_t (sh_85 H1), rf_85_0 H1, br_s, ck_t (show gz_inb h1 86 10 (0 : Int32) = true from in_86 H1 (j := 0) (by decide)), mm1.1, pk_sub hj']
    by_cases c : j = ds.length
    · have tk : ds.take j = ds := by rw [c, List.take_length]
      refine ⟨nI (ds.length - j), h1, uI h1 86 0 (nI j), X, fa1.1.trans H.1, ?_, asm I.1 F fa1 ⟨rfl, rfl, fun a k q _ => uI_ne (by omega), fun k hk => uI_ne (by omega)⟩ (gl_take g j) V1.2.2.2 L1 ?_⟩
      · rw [M]
        show fX9_undo_29 (99999 + 1) 85 (nI j) (nI (ds.length - j)) (0 : Int32) h1 = _
        rw [fX9_undo_29, if_neg (by decide), if_pos (show nI (ds.length - j) ≤ 0 by rw [show ds.length - j = 0 by omega]; decide)]
        unfold fX9_undo_67
        simp (disch := first | assumption | omega | trivial | rfl) only [ck_1, br_s, b2_s, bi_s, lt_d, bo_0, bo_1, lt_d, uI_1, uI_R, uI_L, uF_1, uF_R, uF_L, uL_1, uL_I, uL_R, uR_1, uR_I, uR_L, inb_uI, inb_uF, inb_uL, inb_uR, len_uI, len_uF, sh_uI, sh_uF, sh_uL, sh_uR, rf_0_0, rf_0_1, rf_0_2, rf_0_3, rf_0_4, rf_0_5, rf_0_6, rf_0_7, rf_0_8, rf_0_9, rf_0_12, rf_0_13, rf_0_14, rf_0_15, rf_0_16, rf_0_17, rf_1_1, rf_1_2, rf_10_1, rf_10_2, rf_18_0, rf_21_0, rf_23_0, rf_25_0, rf_79_0, rf_81_0, rf_83_0, rf_28_0, rf_28_1, rf_31_0, rf_33_0, rf_35_0, rf_37_0, rf_39_0, rf_41_0, rf_43_0, rf_43_1, rf_46_0, rf_48_0, rf_50_0, rf_52_0, rf_54_0, rf_56_0, rf_58_0, rf_58_1, rf_61_0, rf_63_0, rf_65_0, rf_67_0, rf_69_0, rf_71_0, rf_85_0, rf_85_2, rf_85_4, rf_85_5, rf_85_6, rf_85_7, rf_85_8, rf_85_9, rf_85_10, rf_85_15, rf_85_19, rf_85_21, rf_85_22, rf_85_23, rf_85_26, rf_85_27, rf_85_28, rf_2, rf_11, rf_30, rf_45, rf_60, rf_27, sgr_31, sgr_46, sgr_61, slr_79, in_2, in_9, ln_9, in_11, in_16, ln_16, in_19, ln_19, in_22, ln_22, in_24, ln_24, in_26, ln_26, in_27, in_29, ln_29, in_30, in_44, ln_44, in_45, in_59, ln_59, in_60, in_73, ln_73, in_74, ln_74, in_75, ln_75, in_76, ln_76, in_77, ln_77, in_78, ln_78, in_80, ln_80, in_82, ln_82, in_84, ln_84, in_86, ln_86, in_87, ln_87, in_88, ln_88, in_89, ln_89, in_90, ln_90, in_91, ln_91, in_92, ln_92, in_93, ln_93, in_94, ln_94, in_95, ln_95, in_96, ln_96, in_97, ln_97, in_98, ln_98, in_99, ln_99, in_100, ln_100, in_101, ln_101, in_102, ln_102, sh_0, sh_1, sh_10, sh_17, sh_18, sh_20, sh_21, sh_23, sh_25, sh_28, sh_43, sh_58, sh_79, sh_81, sh_83, sh_85, sgk_31, sgi_31, sgk_46, sgi_46, sgk_61, sgi_61, slk_79, sli_79, ini_rw, ini_tx, li_0, li_1, li_2, li_3, li_4, li_5, li_6, li_7, li_8, li_9, li_10, li_11, li_12, li_13, li_14, li_15, li_16, li_31, li_32, li_36, li_40, li_48, li_53, li_55, li_56, li_57, li_58, li_60, li_63, li_64, li_80, li_97, li_98, li_99, li_100, li_103, li_104, li_108, li_115, li_116, li_118, li_200, li_256, li_1000, li_2256, not_true_eq_false, not_false_eq_true, Bool.false_eq_true, if_true, if_false, Nat.or_zero, Nat.zero_or, pk_rem, nI_m31, nI_sl, nI_bt, nI_or, nI_sub', nI_n9, nI_9n, nI_n1, bo_n0, bo_n1, bo_if, nI_if, nI_if0, nI_if1, if_10, if_11, t_bits, t_bc, t_has, nI_clamp, nI_add, pk_mul, pk_sub, nI_eq, nI_leI, nI_ltI, if_pos, if_neg, uI_at, uI_to, uI_ne, uF_at, uF_ne]
      · rw [tk]
        exact mm1.cg (fun k => by
          by_cases z : k = 0
          · rw [z, uI_at, c]; exact mm1.1.symm
          · exact uI_ne (by omega))
    · obtain ⟨h2, e2, b1, b2, b3, b4, b5⟩ := m_undoL H1 (j := j) (n := ds.length) (by omega) (by omega)
      exact ⟨nI (ds.length - j), h1, h2, X, fa1.1.trans H.1, M.trans e2, asm I.1 F fa1 ⟨b1, b2, fun a k q _ => b5 a k (Or.inl q), fun k hk => b5 86 k (by omega)⟩ (gl_take g j) V1.2.2.2 L1 (mb_undo w g mm1 (by omega) b3 b4 (fun k hk => b5 86 k (Or.inr hk)))⟩
theorem x_logBe {a b : Nat} (a1 : h.1[a]? = some (3, 2)) (a2 : h.1[a + 1]? = some (10, 40)) (a3 : h.2.2.2 a 0 = some (a + 1)) (b1 : h.1[b]? = some (3, 2)) (b2 : h.1[b + 1]? = some (10, 40)) (b3 : h.2.2.2 b 0 = some (b + 1)) (d1 : b ≠ a) (d2 : b ≠ a + 1) (d3 : b + 1 ≠ a) : ∃ h', fX3_become a b h = some ((), h') ∧ h'.1 = h.1 ∧ h'.2.2 = h.2.2 ∧ (∀ es, lgv h b es → es.length ≤ 40 → lgv h' a es) ∧ ∀ x k, x ≠ a → x ≠ a + 1 → h'.2.1 x k = h.2.1 x k := by
  generalize hC : gz_cp h (b + 1) (a + 1) (0 : Int32) (0 : Int32) (nI 40) = hc
  have oc : ∀ x k, hc.2.1 x k = if x = a + 1 ∧ k < 40 then h.2.1 (b + 1) k else h.2.1 x k := fun x k => by rw [← hC]; exact cp_I (by decide) x k
  have c1 : hc.1 = h.1 := by rw [← hC]; rfl
  have c2 : hc.2.2 = h.2.2 := by rw [← hC]; rfl
  refine ⟨uI hc a 1 (h.2.1 b 1), ?_, c1, c2, fun es L he => ⟨by rw [uI_at]; exact L.1, fun k hk => ?_⟩, fun x k q1 q2 => by rw [uI_ne (by omega), oc, if_neg (by omega)]⟩
  · unfold fX3_become fX3_become_0
    rw [ck_t (sh_t b1), b3, br_s, ck_t (sh_t a1), a3, br_s, ck_t (show gz_cpOk h (b + 1) (a + 1) (0 : Int32) (0 : Int32) (40 : Int32) = true from cpOk_t (i := 0) (j := 0) (n := 40) (n0 := 40) (n1 := 40) b2 a2 (by omega) (by omega) (by decide) (by decide)), lt_d, show (40 : Int32) = nI 40 from rfl, hC, ck_t (sh_t (by rw [c1]; exact b1)), ck_t (sh_t (by rw [c1]; exact a1)), lt_d, oc, if_neg (by omega)]
  · rw [uI_ne (by omega), oc, if_pos ⟨rfl, by omega⟩]
    exact L.2 k hk
theorem m_cpFlock (H : gz_La h) {B B' : Nat} (hB : B + 2256 ≤ 9024) (hB' : B' + 2256 ≤ 9024) (dj : B + 2256 ≤ B' ∨ B' + 2256 ≤ B) : ∃ h', fX9_copyFlock 85 (nI B) (nI B') h = some ((), h') ∧ h'.1 = h.1 ∧ h'.2.2 = h.2.2 ∧ (∀ k, k < 2256 → h'.2.1 86 (B' + k) = h.2.1 86 (B + k)) ∧ ∀ a k, (a ≠ 86 ∨ k < B' ∨ B' + 2256 ≤ k) → h'.2.1 a k = h.2.1 a k := by
  unfold fX9_copyFlock fX9_copyFlock_0
  have hfu : 2256 < 0 + gz_fu := by show 2256 < 0 + 100000; omega
  generalize gz_fu = fu at hfu ⊢
  refine lpr (fun m k (s : gz_H) => fX9_copyFlock_2 m 85 (nI B) (nI B') (nI k) s) (fun k s => s.1 = h.1 ∧ s.2.2 = h.2.2 ∧ (∀ q, q < k → s.2.1 86 (B' + q) = h.2.1 86 (B + q)) ∧ ∀ a q, (a ≠ 86 ∨ q < B' ∨ B' + 2256 ≤ q) → s.2.1 a q = h.2.1 a q) 2256 (fun r => ∃ h', r = some ((), h') ∧ h'.1 = h.1 ∧ h'.2.2 = h.2.2 ∧ (∀ k, k < 2256 → h'.2.1 86 (B' + k) = h.2.1 86 (B + k)) ∧ ∀ a k, (a ≠ 86 ∨ k < B' ∨ B' + 2256 ≤ k) → h'.2.1 a k = h.2.1 a k) ?_ ?_ fu 0 h (by omega) hfu ⟨rfl, rfl, fun q hq => absurd hq (by omega), fun a q _ => rfl⟩
  · intro m s ⟨s1, s2, s3, s4⟩
    refine ⟨s, ?_, s1, s2, s3, s4⟩
    rw [fX9_copyFlock_2, if_pos (show (2256 : Int32) ≤ nI 2256 by decide)]
  · intro m k s hk ⟨s1, s2, s3, s4⟩
    have H1 : gz_La s := H.of s1 (congrArg Prod.snd s2)
    have e2 : s.2.1 86 (B + k) = h.2.1 86 (B + k) := s4 86 _ (by omega)
    refine ⟨uI s 86 (B' + k) (h.2.1 86 (B + k)), ⟨s1, s2, fun q hq => ?_, fun a q z => by rw [uI_ne (by omega)]; exact s4 a q z⟩, ?_⟩
    · by_cases c : q = k
      · rw [c, uI_at]
      · rw [uI_ne (by omega)]; exact s3 q (by omega)
    · rw [fX9_copyFlock_2, if_neg (show ¬ (2256 : Int32) ≤ nI k from nI_ge hk (by decide)), ck_t (sh_85 H1), rf_85_0 H1, br_s, nI_add, nI_add, ck_t (in_86 H1 (by omega)), ck_t (in_86 H1 (by omega)), lt_d, nI_clamp (by omega), nI_clamp (by omega), e2, nI_1]
theorem k_addr {k : Nat} (hk : k < 3) : (2256 : Int32) * ((1 : Int32) + nI k) = nI (2256 * (k + 1)) := by
  match k, hk with
  | 0, _ => rfl
  | 1, _ => rfl
  | 2, _ => rfl
theorem op_keep (I : gz_Iv h) (x1 : Int32) : gz_ag (fX8_keep 0 x1) (fX9_keep 85 x1) h gz_Iv := by
  obtain ⟨T, D, ds, ks, sa, F⟩ := I.2
  have V := F.xv I.1.1
  have W := F.mv I.1.1
  have H := V.H
  have w := V.2.1
  have b := V.b
  have g := F.1.2.2.2.1
  have hl := g.1
  have L := F.2.2.1.2.2.1
  have mm := F.2.2.2.2.1
  have c0 : (0 : Int32).toNatClampNeg = 0 := rfl
  have a1 : h.2.1 28 3 = nI T.2.1 := V.2.2.2.2.1
  have a2 : h.2.1 28 2 = nI T.1 := V.2.2.2.1
  have a3 : h.2.1 85 3 = nI T.2.1 := F.2.2.2.1.2.1
  rcases p_cases x1 3 (by omega) with hx | ⟨k, hk, rfl⟩
  · refine ag_no I (y := -1) ?_ ?_
    · unfold fX8_keep fX8_keep_0
      by_cases c : x1 < 0
      · rw [if_pos c]
      · have h1 := hx.resolve_left c
        rw [if_neg c, if_neg (show ¬ x1 < (3 : Int32) from Int32.not_lt.mpr h1)]
    · unfold fX9_keep fX9_keep_0
      rw [show (2 : Int64) = (nI 2).toInt64 from rfl, m_in_gt hx (by omega), b2_s, if_pos (by decide)]
  · by_cases c : T.2.1 = 0
    · have c' := w.2.2.1.mpr c
      refine ag_no I (y := -4) ?_ ?_
      · unfold fX8_keep fX8_keep_0 fX1_hasGeese fX1_hasGeese_0
        rw [if_neg (nI_pos (by omega)), if_pos (show nI k < (3 : Int32) from nI_lt hk (by decide)), ck_t (sh_0 H), rf_0_9 H, br_s, ck_t (sh_28 H), ck_t (sh_28 H), a1, c, if_pos (by decide), b2_s, if_pos (by decide)]
      · unfold fX9_keep fX9_keep_0
        rw [show (2 : Int64) = (nI 2).toInt64 from rfl, m_in_le (by omega) (by omega), b2_s, if_neg (by decide), ck_t (sh_85 H), a3, c, if_pos (by decide)]
    · have c' : ¬ T.1 = 0 := fun z => c (w.2.2.1.mp z)
      have sl := sl_79 H hk
      obtain ⟨h1, e1, f1, f2, f3, f4⟩ := x_logBe (a := 79 + 2 * k) (b := 25) sl.1 sl.2.1 sl.2.2 (H.sh rfl) (H.sh rfl) (rf_25_0 H) (by omega) (by omega) (by omega)
      have H1 : gz_La h1 := H.of f1 (congrArg Prod.snd f2)
      obtain ⟨h2, e2, d1, d2, d3, d4⟩ := m_cpFlock H1 (B := 0) (B' := 2256 * (k + 1)) (by omega) (by omega) (by omega)
      have H2 : gz_La h2 := H1.of d1 (congrArg Prod.snd d2)
      have o : ∀ a q, a ≠ 79 + 2 * k → a ≠ 79 + 2 * k + 1 → a ≠ 86 ∨ q < 2256 * (k + 1) ∨ 2256 * (k + 1) + 2256 ≤ q → h2.2.1 a q = h.2.1 a q := fun a q z1 z2 z3 => by rw [d4 a q z3, f4 a q z1 z2]
      have t1 : h2.1 = h.1 := d1.trans f1
      have t2 : h2.2.2 = h.2.2 := d2.trans f2
      have t3 : h2.2.2.2 = h.2.2.2 := congrArg Prod.snd t2
      refine ⟨nI ds.length, h1, h2, ?_, f1.trans H.1, ?_, ?_⟩
      · unfold fX8_keep fX8_keep_0 fX1_hasGeese fX1_hasGeese_0
        rw [if_neg (nI_pos (by omega)), if_pos (show nI k < (3 : Int32) from nI_lt hk (by decide)), ck_t (sh_0 H), rf_0_9 H, br_s, ck_t (sh_28 H), ck_t (sh_28 H), a1, if_neg (n_le0 (by omega) (by omega)), a2, if_neg (n_le0 (by omega) (by omega)), b2_s, if_neg (by decide), ck_t (sh_0 H), rf_0_8 H, br_s, ck_t (in_27 H hk), nI_clamp (by omega), rf_27 H hk, br_s, rf_0_7 H, br_s, ck_t (slk_79 H hk), e1, b2_s, ck_t (sh_0 H1), rf_0_7 H1, br_s, ck_t (sh_25 H1), f4 25 1 (by omega) (by omega), L.1]
      · unfold fX9_keep fX9_keep_0
        rw [show (2 : Int64) = (nI 2).toInt64 from rfl, m_in_le (by omega) (by omega), b2_s, if_neg (by decide), ck_t (sh_85 H1), f4 85 3 (by omega) (by omega), a3, if_neg (fun z => c ((nI_z (by omega)).mp z)), k_addr hk, show (0 : Int32) = nI 0 from rfl, e2, b2_s, ck_t (sh_85 H2), rf_85_0 H2, br_s, ck_t (in_86 H2 (by omega)), nI_clamp (by omega), o 86 0 (by omega) (by omega) (by omega), mm.1]
      · obtain ⟨⟨_, Fx, Rw, Tx, Sc⟩, _⟩ := I
        obtain ⟨⟨_, wD, al, gl0, gk⟩, ⟨s1, s2, s3⟩, ⟨x1, x2, x3, x4⟩, ⟨m1, m2, m3⟩⟩ := F
        refine ⟨⟨H2, Fx.cg (fun a k q => o a k (by omega) (by omega) (by omega)), Rw.cg (fun a k q => o a k (by omega) (by omega) (by omega)), Tx.cg (fun a k q => o a k (by omega) (by omega) (by omega)), Sc.cg (fun a k q => o a k (by omega) (by omega) (by omega)) (congrArg Prod.fst t2)⟩, T, D, ds, (fun j => if j = k then some ds else ks j), sa, ⟨w, wD, al, g, fun j es hj e => ?_⟩, ⟨s1, by rw [t3]; exact s2, by rw [t3]; exact s3⟩, ⟨x1.cg w.2.1 t1 t3 (fun a k q1 q2 => o a k (by omega) (by omega) (by omega)), x2.cg w.2.1 t1 t3 (fun a k q1 q2 => o a k (by omega) (by omega) (by omega)), x3.cg (fun a k q1 q2 => o a k (by omega) (by omega) (by omega)), fun j hj => ?_⟩, ⟨⟨by rw [o 85 1 (by omega) (by omega) (by omega)]; exact m1.1, by rw [o 85 3 (by omega) (by omega) (by omega)]; exact m1.2.1, fun q hq => by rw [o 87 q (by omega) (by omega) (by omega)]; exact m1.2.2.1 q hq, fun i hi => ?_⟩, mb_mov w g m2 (fun q hq => o 86 _ (by omega) (by omega) (by omega)), fun j hj => ?_⟩⟩
        · have e : (if j = k then some ds else ks j) = some es := e
          by_cases z : j = k
          · rw [if_pos z] at e
            exact Option.some.inj e ▸ g
          · rw [if_neg z] at e
            exact gk j es hj e
        · by_cases z : j = k
          · subst z
            show xk h2 j (if j = j then some ds else ks j)
            rw [if_pos rfl]
            exact (f3 ds x3 hl).cg (fun a q q1 q2 => d4 a q (by omega))
          · show xk h2 j (if j = k then some ds else ks j)
            rw [if_neg z]
            have := x4 j hj
            unfold xk at this ⊢
            cases hks : ks j with
            | none =>
              rw [hks] at this
              show h2.2.1 (79 + 2 * j) 1 = -1
              rw [o _ _ (by omega) (by omega) (by omega)]
              exact this
            | some es =>
              rw [hks] at this
              exact lgv.cg this (fun a q q1 q2 => o a q (by omega) (by omega) (by omega))
        · rw [o 88 i (by omega) (by omega) (by omega), o 89 i (by omega) (by omega) (by omega), o 90 i (by omega) (by omega) (by omega)]
          exact m1.2.2.2 i hi
        · by_cases z : j = k
          · subst z
            show mk h2 j T D (if j = j then some ds else ks j)
            rw [if_pos rfl]
            exact mb_mov (h := h) w g m2 (fun q hq => by rw [d3 q hq, f4 86 _ (by omega) (by omega)])
          · show mk h2 j T D (if j = k then some ds else ks j)
            rw [if_neg z]
            have := m3 j hj
            unfold mk at this ⊢
            cases hks : ks j with
            | none =>
              rw [hks] at this
              show h2.2.1 86 _ = -1
              rw [o _ _ (by omega) (by omega) (by omega)]
              exact this
            | some es =>
              rw [hks] at this
              exact mb_mov w (gk j es hj hks) this (fun q hq => o 86 _ (by omega) (by omega) (by omega))
theorem op_on (I : gz_Iv h) (x1 : Int32) : gz_ag (fX8_on 0 x1) (fX9_on 85 x1) h gz_Iv := by
  obtain ⟨T, D, ds, ks, sa, F⟩ := I.2
  have V := F.xv I.1.1
  have H := V.H
  have w := V.2.1
  have b := V.b
  have c0 : (0 : Int32).toNatClampNeg = 0 := rfl
  rcases p_cases x1 3 (by omega) with hx | ⟨k, hk, rfl⟩
  · refine ag_no I (y := -1) ?_ ?_
    · unfold fX8_on fX8_on_0
      by_cases c : x1 < 0
      · rw [if_pos c]
      · have h1 := hx.resolve_left c
        rw [if_neg c, if_neg (show ¬ x1 < (3 : Int32) from Int32.not_lt.mpr h1)]
    · unfold fX9_on fX9_on_0
      rw [show (2 : Int64) = (nI 2).toInt64 from rfl, m_in_gt hx (by omega), b2_s, if_pos (by decide)]
  · have x4 := F.2.2.1.2.2.2 k hk
    have m3 := F.2.2.2.2.2 k hk
    have gk := F.1.2.2.2.2 k
    have ka : nI (2256 * (k + 1)) + (0 : Int32) = nI (2256 * (k + 1)) := by rw [show (0 : Int32) = nI 0 from rfl, nI_add]; rfl
    unfold xk at x4
    unfold mk at m3
    cases hks : ks k with
    | none =>
      rw [hks] at x4 m3
      have x4 : h.2.1 (79 + 2 * k) 1 = -1 := x4
      have m3 : h.2.1 86 (2256 * (k + 1)) = -1 := m3
      refine ag_iv I (st_findE I.1 (f := 1) (by decide) ?_ ?_)
      · unfold fX8_on fX8_on_0
        rw [if_neg (nI_pos (by omega)), if_pos (show nI k < (3 : Int32) from nI_lt hk (by decide)), ck_t (sh_0 H), rf_0_8 H, br_s, ck_t (in_27 H hk), nI_clamp (by omega), rf_27 H hk, br_s, ck_t (slk_79 H hk), x4, if_pos rfl, rf_0_3 H, br_s, ck_t (sh_18 H), show (1 : Int32) = nI 1 from rfl, p_answer H (by decide), b2_s]
      · have H1 := gz_xf_La (f := 1) H
        have m3' : (gz_xf h 1).2.1 86 (2256 * (k + 1)) = -1 := by rw [gz_xf_I 86 _ (by decide) (by decide)]; exact m3
        unfold fX9_on fX9_on_0
        rw [show (2 : Int64) = (nI 2).toInt64 from rfl, m_in_le (by omega) (by omega), b2_s, if_neg (by decide), ck_t (sh_85 H1), rf_85_0 H1, br_s, k_addr hk, ka, ck_t (in_86 H1 (by omega)), nI_clamp (by omega), m3', if_neg (by decide), show (1 : Int32) = nI 1 from rfl, p_find H1 (by decide), b2_s]
    | some es =>
      rw [hks] at x4 m3
      have x4 : lgv h (79 + 2 * k) es := x4
      have m3 : mb h (2256 * (k + 1)) T D es := m3
      have g := gk es hk hks
      have hl := g.1
      have sl := sl_79 H hk
      obtain ⟨h1, e1, f1, f2, f3, f4⟩ := x_logBe (a := 25) (b := 79 + 2 * k) (H.sh rfl) (H.sh rfl) (rf_25_0 H) sl.1 sl.2.1 sl.2.2 (by omega) (by omega) (by omega)
      have t3 : h1.2.2.2 = h.2.2.2 := congrArg Prod.snd f2
      have H1 : gz_La h1 := H.of f1 t3
      have L1 := f3 es x4 hl
      have x6 : xv h1 sa T D := F.2.2.1.1.cg w.2.1 f1 t3 (fun a k q1 q2 => f4 a k (by have := F.2.1.1; omega) (by have := F.2.1.1; omega))
      obtain ⟨h2, e2, V2, f2'⟩ := x_repeat H1 w F.1.2.1 F.2.1.1 (by rw [t3]; exact F.2.1.2.1) x6 L1 g
      have H2 := V2.H
      have fa2 : fA h h2 := fA.tr ⟨f1, f2, fun a k q => f4 a k (by omega) (by omega)⟩ f2'.fA
      have L2 : lgv h2 25 es := L1.cg (fun a k q1 q2 => f2'.2.2 a k (by omega))
      have m3' : mb h2 (2256 * (k + 1)) T D es := m3.cg (fun k => fa2.2.2 86 k (by omega))
      obtain ⟨h3, e3, d1, d2, d3, d4⟩ := m_cpFlock H2 (B := 2256 * (k + 1)) (B' := 0) (by omega) (by omega) (by omega)
      have H3 : gz_La h3 := H2.of d1 (congrArg Prod.snd d2)
      have m0 : mb h3 0 T D es := mb_mov w g m3' d3
      refine ⟨nI es.length, h2, h3, ?_, fa2.1.trans H.1, ?_, asm I.1 F fa2 ⟨d1, d2, fun a k q _ => d4 a k (Or.inl q), fun k hk => d4 86 k (by omega)⟩ g V2.2.2.2 L2 m0⟩
      · unfold fX8_on fX8_on_0
        rw [if_neg (nI_pos (by omega)), if_pos (show nI k < (3 : Int32) from nI_lt hk (by decide)), ck_t (sh_0 H), rf_0_8 H, br_s, ck_t (in_27 H hk), nI_clamp (by omega), rf_27 H hk, br_s, ck_t (slk_79 H hk), x4.1, if_neg (n_ne _ (by omega)), rf_0_7 H, br_s, ck_t (sh_25 H), e1, b2_s, ck_t (sh_0 H1), e2, b2_s, ck_t (sh_0 H2), rf_0_7 H2, br_s, ck_t (sh_25 H2), L2.1]
      · unfold fX9_on fX9_on_0
        rw [show (2 : Int64) = (nI 2).toInt64 from rfl, m_in_le (by omega) (by omega), b2_s, if_neg (by decide), ck_t (sh_85 H2), rf_85_0 H2, br_s, k_addr hk, ka, ck_t (in_86 H2 (by omega)), nI_clamp (by omega), m3'.1, if_pos (nI_pos' (by omega)), show (0 : Int32) = nI 0 from rfl, e3, b2_s, ck_t (sh_85 H3), rf_85_0 H3, br_s, ck_t (in_86 H3 (by omega)), nI_clamp (by omega), m0.1]
end
