/-! PURE: counts -/
theorem fs_ext {g : Nat → Nat} {n : Nat} : ∀ {N : Nat}, n ≤ N → fs (fun i => if i < n then g i else 0) N = fs g n := by
  intro N
  induction N with
  | zero => intro h; rw [show n = 0 by omega]; rfl
  | succ N ih =>
    intro h
    by_cases e : n = N + 1
    · subst e
      exact fs_cg fun i hi => if_pos hi
    · rw [fs, ih (by omega), if_neg (by omega), Nat.add_zero]
def cnt (q : Nat → Bool) (n : Nat) : Nat := fs (fun i => if q i = true then 1 else 0) n
theorem cnt_le (q : Nat → Bool) (n : Nat) : cnt q n ≤ n := by
  have := fs_le (g := fun i => if q i = true then 1 else 0) (b := 1) (n := n) (fun i _ => by by_cases e : q i = true <;> simp [e])
  unfold cnt
  omega
theorem cnt_not (q : Nat → Bool) : ∀ n, cnt q n + cnt (fun i => !q i) n = n := by
  intro n
  induction n with
  | zero => rfl
  | succ n ih =>
    unfold cnt at ih ⊢
    rw [fs, fs]
    by_cases e : q n = true
    · rw [if_pos e, if_neg (by simp [e])]
      omega
    · rw [if_neg e, if_pos (by simpa using e)]
      omega
theorem fo_pbit {q : Nat → Bool} {n k : Nat} : (fo (fun i => if q i = true then 2 ^ i else 0) n).testBit k = true ↔ k < n ∧ q k = true := by
  rw [fo_bit]
  constructor
  · rintro ⟨i, hi, e⟩
    by_cases z : q i = true
    · rw [if_pos z, bit_p] at e
      subst e
      exact ⟨hi, z⟩
    · rw [if_neg z] at e; simp at e
  · rintro ⟨h1, h2⟩
    exact ⟨k, h1, by rw [if_pos h2, bit_p]⟩
theorem pc_fo {q : Nat → Bool} {n : Nat} (hn : n ≤ 8) : pc (fo (fun i => if q i = true then 2 ^ i else 0) n) = cnt q n := by
  unfold pc cnt
  rw [← fs_ext hn]
  refine fs_cg fun k _ => ?_
  by_cases z : k < n ∧ q k = true
  · rw [if_pos (fo_pbit.mpr z), if_pos z.1, if_pos z.2]
  · rw [if_neg (fun y => z (fo_pbit.mp y))]
    by_cases y : k < n
    · rw [if_pos y, if_neg (fun x => z ⟨y, x⟩)]
    · rw [if_neg y]
section
variable {h : gz_H} {T : gz_T} {E : gz_D}
/-- who is there -/
def alv (E : gz_D) (n : Nat) : Nat := fo (fun i => if (fun i => !(E i).2) i = true then 2 ^ i else 0) n
theorem x_aliveSet (V : XV h T E) : fX1_aliveSet 28 h = some (nI (alv E T.2.1), h) := by
  have H := V.H
  have b := V.b
  unfold fX1_aliveSet fX1_aliveSet_0 alv
  refine lp (fun m k (x : Int32) => fX1_aliveSet_4 m 28 x (nI k) h) (fun k => nI (fo (fun i => if (fun i => !(E i).2) i = true then 2 ^ i else 0) k)) T.2.1 _ ?_ ?_ gz_fu 0 (by omega) (by show T.2.1 < 0 + 100000; omega)
  · intro m
    rw [fX1_aliveSet_4]
    simp (disch := first | assumption | omega | trivial | rfl) only [ck_1, br_s, b2_s, bi_s, lt_d, bo_0, bo_1, lt_d, uI_1, uI_R, uI_L, uF_1, uF_R, uF_L, uL_1, uL_I, uL_R, uR_1, uR_I, uR_L, inb_uI, inb_uF, inb_uL, inb_uR, len_uI, len_uF, sh_uI, sh_uF, sh_uL, sh_uR, rf_0_0, rf_0_1, rf_0_2, rf_0_3, rf_0_4, rf_0_5, rf_0_6, rf_0_7, rf_0_8, rf_0_9, rf_0_12, rf_0_13, rf_0_14, rf_0_15, rf_0_16, rf_0_17, rf_1_1, rf_1_2, rf_10_1, rf_10_2, rf_18_0, rf_21_0, rf_23_0, rf_25_0, rf_79_0, rf_81_0, rf_83_0, rf_28_0, rf_28_1, rf_31_0, rf_33_0, rf_35_0, rf_37_0, rf_39_0, rf_41_0, rf_43_0, rf_43_1, rf_46_0, rf_48_0, rf_50_0, rf_52_0, rf_54_0, rf_56_0, rf_58_0, rf_58_1, rf_61_0, rf_63_0, rf_65_0, rf_67_0, rf_69_0, rf_71_0, rf_85_0, rf_85_2, rf_85_4, rf_85_5, rf_85_6, rf_85_7, rf_85_8, rf_85_9, rf_85_10, rf_85_15, rf_85_19, rf_85_21, rf_85_22, rf_85_23, rf_85_26, rf_85_27, rf_85_28, rf_2, rf_11, rf_30, rf_45, rf_60, rf_27, sgr_31, sgr_46, sgr_61, slr_79, in_2, in_9, ln_9, in_11, in_16, ln_16, in_19, ln_19, in_22, ln_22, in_24, ln_24, in_26, ln_26, in_27, in_29, ln_29, in_30, in_44, ln_44, in_45, in_59, ln_59, in_60, in_73, ln_73, in_74, ln_74, in_75, ln_75, in_76, ln_76, in_77, ln_77, in_78, ln_78, in_80, ln_80, in_82, ln_82, in_84, ln_84, in_86, ln_86, in_87, ln_87, in_88, ln_88, in_89, ln_89, in_90, ln_90, in_91, ln_91, in_92, ln_92, in_93, ln_93, in_94, ln_94, in_95, ln_95, in_96, ln_96, in_97, ln_97, in_98, ln_98, in_99, ln_99, in_100, ln_100, in_101, ln_101, in_102, ln_102, sh_0, sh_1, sh_10, sh_17, sh_18, sh_20, sh_21, sh_23, sh_25, sh_28, sh_43, sh_58, sh_79, sh_81, sh_83, sh_85, sgk_31, sgi_31, sgk_46, sgi_46, sgk_61, sgi_61, slk_79, sli_79, ini_rw, ini_tx, li_0, li_1, li_2, li_3, li_4, li_5, li_6, li_7, li_8, li_9, li_10, li_11, li_12, li_13, li_14, li_15, li_16, li_31, li_32, li_36, li_40, li_48, li_53, li_55, li_56, li_57, li_58, li_60, li_63, li_64, li_80, li_97, li_98, li_99, li_100, li_103, li_104, li_108, li_115, li_116, li_118, li_200, li_256, li_1000, li_2256, not_true_eq_false, not_false_eq_true, Bool.false_eq_true, if_true, if_false, Nat.or_zero, Nat.zero_or, pk_rem, nI_m31, nI_sl, nI_bt, nI_or, nI_sub', nI_n9, nI_9n, nI_n1, bo_n0, bo_n1, bo_if, nI_if, nI_if0, nI_if1, if_10, if_11, t_bits, t_bc, t_has, nI_clamp, nI_add, pk_mul, pk_sub, nI_eq, nI_leI, nI_ltI, if_pos, if_neg, uI_at, uI_to, uI_ne, uF_at, uF_ne, V.n]
  · intro m i hi
    rw [fX1_aliveSet_4]
    unfold fX1_aliveSet_30
    cases q : (E i).2
    · simp (disch := first | assumption | omega | trivial | rfl) only [ck_1, br_s, b2_s, bi_s, lt_d, bo_0, bo_1, lt_d, uI_1, uI_R, uI_L, uF_1, uF_R, uF_L, uL_1, uL_I, uL_R, uR_1, uR_I, uR_L, inb_uI, inb_uF, inb_uL, inb_uR, len_uI, len_uF, sh_uI, sh_uF, sh_uL, sh_uR, rf_0_0, rf_0_1, rf_0_2, rf_0_3, rf_0_4, rf_0_5, rf_0_6, rf_0_7, rf_0_8, rf_0_9, rf_0_12, rf_0_13, rf_0_14, rf_0_15, rf_0_16, rf_0_17, rf_1_1, rf_1_2, rf_10_1, rf_10_2, rf_18_0, rf_21_0, rf_23_0, rf_25_0, rf_79_0, rf_81_0, rf_83_0, rf_28_0, rf_28_1, rf_31_0, rf_33_0, rf_35_0, rf_37_0, rf_39_0, rf_41_0, rf_43_0, rf_43_1, rf_46_0, rf_48_0, rf_50_0, rf_52_0, rf_54_0, rf_56_0, rf_58_0, rf_58_1, rf_61_0, rf_63_0, rf_65_0, rf_67_0, rf_69_0, rf_71_0, rf_85_0, rf_85_2, rf_85_4, rf_85_5, rf_85_6, rf_85_7, rf_85_8, rf_85_9, rf_85_10, rf_85_15, rf_85_19, rf_85_21, rf_85_22, rf_85_23, rf_85_26, rf_85_27, rf_85_28, rf_2, rf_11, rf_30, rf_45, rf_60, rf_27, sgr_31, sgr_46, sgr_61, slr_79, in_2, in_9, ln_9, in_11, in_16, ln_16, in_19, ln_19, in_22, ln_22, in_24, ln_24, in_26, ln_26, in_27, in_29, ln_29, in_30, in_44, ln_44, in_45, in_59, ln_59, in_60, in_73, ln_73, in_74, ln_74, in_75, ln_75, in_76, ln_76, in_77, ln_77, in_78, ln_78, in_80, ln_80, in_82, ln_82, in_84, ln_84, in_86, ln_86, in_87, ln_87, in_88, ln_88, in_89, ln_89, in_90, ln_90, in_91, ln_91, in_92, ln_92, in_93, ln_93, in_94, ln_94, in_95, ln_95, in_96, ln_96, in_97, ln_97, in_98, ln_98, in_99, ln_99, in_100, ln_100, in_101, ln_101, in_102, ln_102, sh_0, sh_1, sh_10, sh_17, sh_18, sh_20, sh_21, sh_23, sh_25, sh_28, sh_43, sh_58, sh_79, sh_81, sh_83, sh_85, sgk_31, sgi_31, sgk_46, sgi_46, sgk_61, sgi_61, slk_79, sli_79, ini_rw, ini_tx, li_0, li_1, li_2, li_3, li_4, li_5, li_6, li_7, li_8, li_9, li_10, li_11, li_12, li_13, li_14, li_15, li_16, li_31, li_32, li_36, li_40, li_48, li_53, li_55, li_56, li_57, li_58, li_60, li_63, li_64, li_80, li_97, li_98, li_99, li_100, li_103, li_104, li_108, li_115, li_116, li_118, li_200, li_256, li_1000, li_2256, not_true_eq_false, not_false_eq_true, Bool.false_eq_true, if_true, if_false, Nat.or_zero, Nat.zero_or, pk_rem, nI_m31, nI_sl, nI_bt, nI_or, nI_sub', nI_n9, nI_9n, nI_n1, bo_n0, bo_n1, bo_if, nI_if, nI_if0, nI_if1, if_10, if_11, t_bits, t_bc, t_has, nI_clamp, nI_add, pk_mul, pk_sub, nI_eq, nI_leI, nI_ltI, if_pos, if_neg, uI_at, uI_to, uI_ne, uF_at, uF_ne, V.n, V.gn, fo, q, Bool.not_false]
    · simp (disch := first | assumption | omega | trivial | rfl) only [ck_1, br_s, b2_s, bi_s, lt_d, bo_0, bo_1, lt_d, uI_1, uI_R, uI_L, uF_1, uF_R, uF_L, uL_1, uL_I, uL_R, uR_1, uR_I, uR_L, inb_uI, inb_uF, inb_uL, inb_uR, len_uI, len_uF, sh_uI, sh_uF, sh_uL, sh_uR, rf_0_0, rf_0_1, rf_0_2, rf_0_3, rf_0_4, rf_0_5, rf_0_6, rf_0_7, rf_0_8, rf_0_9, rf_0_12, rf_0_13, rf_0_14, rf_0_15, rf_0_16, rf_0_17, rf_1_1, rf_1_2, rf_10_1, rf_10_2, rf_18_0, rf_21_0, rf_23_0, rf_25_0, rf_79_0, rf_81_0, rf_83_0, rf_28_0, rf_28_1, rf_31_0, rf_33_0, rf_35_0, rf_37_0, rf_39_0, rf_41_0, rf_43_0, rf_43_1, rf_46_0, rf_48_0, rf_50_0, rf_52_0, rf_54_0, rf_56_0, rf_58_0, rf_58_1, rf_61_0, rf_63_0, rf_65_0, rf_67_0, rf_69_0, rf_71_0, rf_85_0, rf_85_2, rf_85_4, rf_85_5, rf_85_6, rf_85_7, rf_85_8, rf_85_9, rf_85_10, rf_85_15, rf_85_19, rf_85_21, rf_85_22, rf_85_23, rf_85_26, rf_85_27, rf_85_28, rf_2, rf_11, rf_30, rf_45, rf_60, rf_27, sgr_31, sgr_46, sgr_61, slr_79, in_2, in_9, ln_9, in_11, in_16, ln_16, in_19, ln_19, in_22, ln_22, in_24, ln_24, in_26, ln_26, in_27, in_29, ln_29, in_30, in_44, ln_44, in_45, in_59, ln_59, in_60, in_73, ln_73, in_74, ln_74, in_75, ln_75, in_76, ln_76, in_77, ln_77, in_78, ln_78, in_80, ln_80, in_82, ln_82, in_84, ln_84, in_86, ln_86, in_87, ln_87, in_88, ln_88, in_89, ln_89, in_90, ln_90, in_91, ln_91, in_92, ln_92, in_93, ln_93, in_94, ln_94, in_95, ln_95, in_96, ln_96, in_97, ln_97, in_98, ln_98, in_99, ln_99, in_100, ln_100, in_101, ln_101, in_102, ln_102, sh_0, sh_1, sh_10, sh_17, sh_18, sh_20, sh_21, sh_23, sh_25, sh_28, sh_43, sh_58, sh_79, sh_81, sh_83, sh_85, sgk_31, sgi_31, sgk_46, sgi_46, sgk_61, sgi_61, slk_79, sli_79, ini_rw, ini_tx, li_0, li_1, li_2, li_3, li_4, li_5, li_6, li_7, li_8, li_9, li_10, li_11, li_12, li_13, li_14, li_15, li_16, li_31, li_32, li_36, li_40, li_48, li_53, li_55, li_56, li_57, li_58, li_60, li_63, li_64, li_80, li_97, li_98, li_99, li_100, li_103, li_104, li_108, li_115, li_116, li_118, li_200, li_256, li_1000, li_2256, not_true_eq_false, not_false_eq_true, Bool.false_eq_true, if_true, if_false, Nat.or_zero, Nat.zero_or, pk_rem, nI_m31, nI_sl, nI_bt, nI_or, nI_sub', nI_n9, nI_9n, nI_n1, bo_n0, bo_n1, bo_if, nI_if, nI_if0, nI_if1, if_10, if_11, t_bits, t_bc, t_has, nI_clamp, nI_add, pk_mul, pk_sub, nI_eq, nI_leI, nI_ltI, if_pos, if_neg, uI_at, uI_to, uI_ne, uF_at, uF_ne, V.n, V.gn, fo, q, Bool.not_true]
theorem alv_lt (hn : T.2.1 ≤ 6) : alv E T.2.1 < 64 := fo_lt (b := 6) fun i hi => by
  dsimp only
  by_cases e : (!(E i).2) = true
  · rw [if_pos e]; exact Nat.pow_lt_pow_right (by decide) (by omega)
  · rw [if_neg e]; decide
theorem alv_pc (hn : T.2.1 ≤ 6) : pc (alv E T.2.1) = T.2.1 - pc (gbits T.2.1 E) ∧ pc (gbits T.2.1 E) ≤ T.2.1 := by
  have a : pc (alv E T.2.1) = cnt (fun i => !(E i).2) T.2.1 := pc_fo (q := fun i => !(E i).2) (n := T.2.1) (by omega)
  have b : pc (gbits T.2.1 E) = cnt (fun i => (E i).2) T.2.1 := pc_fo (q := fun i => (E i).2) (n := T.2.1) (by omega)
  have c : cnt (fun i => (E i).2) T.2.1 + cnt (fun i => !(E i).2) T.2.1 = T.2.1 := cnt_not (fun i => (E i).2) T.2.1
  omega
theorem x_alive (V : XV h T E) : fX1_alive 28 h = some (nI (T.2.1 - pc (gbits T.2.1 E)), h) := by
  have H := V.H
  have b := V.b
  have a := alv_lt (E := E) b.2
  unfold fX1_alive fX1_alive_0
  rw [← (alv_pc b.2).1]
  simp (disch := first | assumption | omega | trivial | rfl) only [ck_1, br_s, b2_s, bi_s, lt_d, bo_0, bo_1, lt_d, uI_1, uI_R, uI_L, uF_1, uF_R, uF_L, uL_1, uL_I, uL_R, uR_1, uR_I, uR_L, inb_uI, inb_uF, inb_uL, inb_uR, len_uI, len_uF, sh_uI, sh_uF, sh_uL, sh_uR, rf_0_0, rf_0_1, rf_0_2, rf_0_3, rf_0_4, rf_0_5, rf_0_6, rf_0_7, rf_0_8, rf_0_9, rf_0_12, rf_0_13, rf_0_14, rf_0_15, rf_0_16, rf_0_17, rf_1_1, rf_1_2, rf_10_1, rf_10_2, rf_18_0, rf_21_0, rf_23_0, rf_25_0, rf_79_0, rf_81_0, rf_83_0, rf_28_0, rf_28_1, rf_31_0, rf_33_0, rf_35_0, rf_37_0, rf_39_0, rf_41_0, rf_43_0, rf_43_1, rf_46_0, rf_48_0, rf_50_0, rf_52_0, rf_54_0, rf_56_0, rf_58_0, rf_58_1, rf_61_0, rf_63_0, rf_65_0, rf_67_0, rf_69_0, rf_71_0, rf_85_0, rf_85_2, rf_85_4, rf_85_5, rf_85_6, rf_85_7, rf_85_8, rf_85_9, rf_85_10, rf_85_15, rf_85_19, rf_85_21, rf_85_22, rf_85_23, rf_85_26, rf_85_27, rf_85_28, rf_2, rf_11, rf_30, rf_45, rf_60, rf_27, sgr_31, sgr_46, sgr_61, slr_79, in_2, in_9, ln_9, in_11, in_16, ln_16, in_19, ln_19, in_22, ln_22, in_24, ln_24, in_26, ln_26, in_27, in_29, ln_29, in_30, in_44, ln_44, in_45, in_59, ln_59, in_60, in_73, ln_73, in_74, ln_74, in_75, ln_75, in_76, ln_76, in_77, ln_77, in_78, ln_78, in_80, ln_80, in_82, ln_82, in_84, ln_84, in_86, ln_86, in_87, ln_87, in_88, ln_88, in_89, ln_89, in_90, ln_90, in_91, ln_91, in_92, ln_92, in_93, ln_93, in_94, ln_94, in_95, ln_95, in_96, ln_96, in_97, ln_97, in_98, ln_98, in_99, ln_99, in_100, ln_100, in_101, ln_101, in_102, ln_102, sh_0, sh_1, sh_10, sh_17, sh_18, sh_20, sh_21, sh_23, sh_25, sh_28, sh_43, sh_58, sh_79, sh_81, sh_83, sh_85, sgk_31, sgi_31, sgk_46, sgi_46, sgk_61, sgi_61, slk_79, sli_79, ini_rw, ini_tx, li_0, li_1, li_2, li_3, li_4, li_5, li_6, li_7, li_8, li_9, li_10, li_11, li_12, li_13, li_14, li_15, li_16, li_31, li_32, li_36, li_40, li_48, li_53, li_55, li_56, li_57, li_58, li_60, li_63, li_64, li_80, li_97, li_98, li_99, li_100, li_103, li_104, li_108, li_115, li_116, li_118, li_200, li_256, li_1000, li_2256, not_true_eq_false, not_false_eq_true, Bool.false_eq_true, if_true, if_false, Nat.or_zero, Nat.zero_or, pk_rem, nI_m31, nI_sl, nI_bt, nI_or, nI_sub', nI_n9, nI_9n, nI_n1, bo_n0, bo_n1, bo_if, nI_if, nI_if0, nI_if1, if_10, if_11, t_bits, t_bc, t_has, nI_clamp, nI_add, pk_mul, pk_sub, nI_eq, nI_leI, nI_ltI, if_pos, if_neg, uI_at, uI_to, uI_ne, uF_at, uF_ne, x_aliveSet V]
theorem x_kinds (V : XV h T E) {k : Nat} (hk : k < 6) : fX1_countOfKind 28 (nI k) h = some (nI (cnt (fun i => isOfB (T.2.2.2.1 i) k) T.2.1), h) := by
  have H := V.H
  have b := V.b
  unfold fX1_countOfKind fX1_countOfKind_0 cnt
  refine lp (fun m j (x : Int32) => fX1_countOfKind_4 m 28 (nI k) x (nI j) h) (fun j => nI (fs (fun i => if (fun i => isOfB (T.2.2.2.1 i) k) i = true then 1 else 0) j)) T.2.1 _ ?_ ?_ gz_fu 0 (by omega) (by show T.2.1 < 0 + 100000; omega)
  · intro m
    rw [fX1_countOfKind_4]
    simp (disch := first | assumption | omega | trivial | rfl) only [ck_1, br_s, b2_s, bi_s, lt_d, bo_0, bo_1, lt_d, uI_1, uI_R, uI_L, uF_1, uF_R, uF_L, uL_1, uL_I, uL_R, uR_1, uR_I, uR_L, inb_uI, inb_uF, inb_uL, inb_uR, len_uI, len_uF, sh_uI, sh_uF, sh_uL, sh_uR, rf_0_0, rf_0_1, rf_0_2, rf_0_3, rf_0_4, rf_0_5, rf_0_6, rf_0_7, rf_0_8, rf_0_9, rf_0_12, rf_0_13, rf_0_14, rf_0_15, rf_0_16, rf_0_17, rf_1_1, rf_1_2, rf_10_1, rf_10_2, rf_18_0, rf_21_0, rf_23_0, rf_25_0, rf_79_0, rf_81_0, rf_83_0, rf_28_0, rf_28_1, rf_31_0, rf_33_0, rf_35_0, rf_37_0, rf_39_0, rf_41_0, rf_43_0, rf_43_1, rf_46_0, rf_48_0, rf_50_0, rf_52_0, rf_54_0, rf_56_0, rf_58_0, rf_58_1, rf_61_0, rf_63_0, rf_65_0, rf_67_0, rf_69_0, rf_71_0, rf_85_0, rf_85_2, rf_85_4, rf_85_5, rf_85_6, rf_85_7, rf_85_8, rf_85_9, rf_85_10, rf_85_15, rf_85_19, rf_85_21, rf_85_22, rf_85_23, rf_85_26, rf_85_27, rf_85_28, rf_2, rf_11, rf_30, rf_45, rf_60, rf_27, sgr_31, sgr_46, sgr_61, slr_79, in_2, in_9, ln_9, in_11, in_16, ln_16, in_19, ln_19, in_22, ln_22, in_24, ln_24, in_26, ln_26, in_27, in_29, ln_29, in_30, in_44, ln_44, in_45, in_59, ln_59, in_60, in_73, ln_73, in_74, ln_74, in_75, ln_75, in_76, ln_76, in_77, ln_77, in_78, ln_78, in_80, ln_80, in_82, ln_82, in_84, ln_84, in_86, ln_86, in_87, ln_87, in_88, ln_88, in_89, ln_89, in_90, ln_90, in_91, ln_91, in_92, ln_92, in_93, ln_93, in_94, ln_94, in_95, ln_95, in_96, ln_96, in_97, ln_97, in_98, ln_98, in_99, ln_99, in_100, ln_100, in_101, ln_101, in_102, ln_102, sh_0, sh_1, sh_10, sh_17, sh_18, sh_20, sh_21, sh_23, sh_25, sh_28, sh_43, sh_58, sh_79, sh_81, sh_83, sh_85, sgk_31, sgi_31, sgk_46, sgi_46, sgk_61, sgi_61, slk_79, sli_79, ini_rw, ini_tx, li_0, li_1, li_2, li_3, li_4, li_5, li_6, li_7, li_8, li_9, li_10, li_11, li_12, li_13, li_14, li_15, li_16, li_31, li_32, li_36, li_40, li_48, li_53, li_55, li_56, li_57, li_58, li_60, li_63, li_64, li_80, li_97, li_98, li_99, li_100, li_103, li_104, li_108, li_115, li_116, li_118, li_200, li_256, li_1000, li_2256, not_true_eq_false, not_false_eq_true, Bool.false_eq_true, if_true, if_false, Nat.or_zero, Nat.zero_or, pk_rem, nI_m31, nI_sl, nI_bt, nI_or, nI_sub', nI_n9, nI_9n, nI_n1, bo_n0, bo_n1, bo_if, nI_if, nI_if0, nI_if1, if_10, if_11, t_bits, t_bc, t_has, nI_clamp, nI_add, pk_mul, pk_sub, nI_eq, nI_leI, nI_ltI, if_pos, if_neg, uI_at, uI_to, uI_ne, uF_at, uF_ne, V.n]
  · intro m i hi
    have bi := V.bi i hi
    have e3 := x_isOf (h := h) (a := T.2.2.2.1 i) (b := k) (by omega) (by omega)
    rw [fX1_countOfKind_4]
    unfold fX1_countOfKind_31
    by_cases q : isOfB (T.2.2.2.1 i) k = true
    · simp (disch := first | assumption | omega | trivial | rfl) only [ck_1, br_s, b2_s, bi_s, lt_d, bo_0, bo_1, lt_d, uI_1, uI_R, uI_L, uF_1, uF_R, uF_L, uL_1, uL_I, uL_R, uR_1, uR_I, uR_L, inb_uI, inb_uF, inb_uL, inb_uR, len_uI, len_uF, sh_uI, sh_uF, sh_uL, sh_uR, rf_0_0, rf_0_1, rf_0_2, rf_0_3, rf_0_4, rf_0_5, rf_0_6, rf_0_7, rf_0_8, rf_0_9, rf_0_12, rf_0_13, rf_0_14, rf_0_15, rf_0_16, rf_0_17, rf_1_1, rf_1_2, rf_10_1, rf_10_2, rf_18_0, rf_21_0, rf_23_0, rf_25_0, rf_79_0, rf_81_0, rf_83_0, rf_28_0, rf_28_1, rf_31_0, rf_33_0, rf_35_0, rf_37_0, rf_39_0, rf_41_0, rf_43_0, rf_43_1, rf_46_0, rf_48_0, rf_50_0, rf_52_0, rf_54_0, rf_56_0, rf_58_0, rf_58_1, rf_61_0, rf_63_0, rf_65_0, rf_67_0, rf_69_0, rf_71_0, rf_85_0, rf_85_2, rf_85_4, rf_85_5, rf_85_6, rf_85_7, rf_85_8, rf_85_9, rf_85_10, rf_85_15, rf_85_19, rf_85_21, rf_85_22, rf_85_23, rf_85_26, rf_85_27, rf_85_28, rf_2, rf_11, rf_30, rf_45, rf_60, rf_27, sgr_31, sgr_46, sgr_61, slr_79, in_2, in_9, ln_9, in_11, in_16, ln_16, in_19, ln_19, in_22, ln_22, in_24, ln_24, in_26, ln_26, in_27, in_29, ln_29, in_30, in_44, ln_44, in_45, in_59, ln_59, in_60, in_73, ln_73, in_74, ln_74, in_75, ln_75, in_76, ln_76, in_77, ln_77, in_78, ln_78, in_80, ln_80, in_82, ln_82, in_84, ln_84, in_86, ln_86, in_87, ln_87, in_88, ln_88, in_89, ln_89, in_90, ln_90, in_91, ln_91, in_92, ln_92, in_93, ln_93, in_94, ln_94, in_95, ln_95, in_96, ln_96, in_97, ln_97, in_98, ln_98, in_99, ln_99, in_100, ln_100, in_101, ln_101, in_102, ln_102, sh_0, sh_1, sh_10, sh_17, sh_18, sh_20, sh_21, sh_23, sh_25, sh_28, sh_43, sh_58, sh_79, sh_81, sh_83, sh_85, sgk_31, sgi_31, sgk_46, sgi_46, sgk_61, sgi_61, slk_79, sli_79, ini_rw, ini_tx, li_0, li_1, li_2, li_3, li_4, li_5, li_6, li_7, li_8, li_9, li_10, li_11, li_12, li_13, li_14, li_15, li_16, li_31, li_32, li_36, li_40, li_48, li_53, li_55, li_56, li_57, li_58, li_60, li_63, li_64, li_80, li_97, li_98, li_99, li_100, li_103, li_104, li_108, li_115, li_116, li_118, li_200, li_256, li_1000, li_2256, not_true_eq_false, not_false_eq_true, Bool.false_eq_true, if_true, if_false, Nat.or_zero, Nat.zero_or, pk_rem, nI_m31, nI_sl, nI_bt, nI_or, nI_sub', nI_n9, nI_9n, nI_n1, bo_n0, bo_n1, bo_if, nI_if, nI_if0, nI_if1, if_10, if_11, t_bits, t_bc, t_has, nI_clamp, nI_add, pk_mul, pk_sub, nI_eq, nI_leI, nI_ltI, if_pos, if_neg, uI_at, uI_to, uI_ne, uF_at, uF_ne, V.n, V.kd, e3, fs, q]
    · simp (disch := first | assumption | omega | trivial | rfl) only [ck_1, br_s, b2_s, bi_s, lt_d, bo_0, bo_1, lt_d, uI_1, uI_R, uI_L, uF_1, uF_R, uF_L, uL_1, uL_I, uL_R, uR_1, uR_I, uR_L, inb_uI, inb_uF, inb_uL, inb_uR, len_uI, len_uF, sh_uI, sh_uF, sh_uL, sh_uR, rf_0_0, rf_0_1, rf_0_2, rf_0_3, rf_0_4, rf_0_5, rf_0_6, rf_0_7, rf_0_8, rf_0_9, rf_0_12, rf_0_13, rf_0_14, rf_0_15, rf_0_16, rf_0_17, rf_1_1, rf_1_2, rf_10_1, rf_10_2, rf_18_0, rf_21_0, rf_23_0, rf_25_0, rf_79_0, rf_81_0, rf_83_0, rf_28_0, rf_28_1, rf_31_0, rf_33_0, rf_35_0, rf_37_0, rf_39_0, rf_41_0, rf_43_0, rf_43_1, rf_46_0, rf_48_0, rf_50_0, rf_52_0, rf_54_0, rf_56_0, rf_58_0, rf_58_1, rf_61_0, rf_63_0, rf_65_0, rf_67_0, rf_69_0, rf_71_0, rf_85_0, rf_85_2, rf_85_4, rf_85_5, rf_85_6, rf_85_7, rf_85_8, rf_85_9, rf_85_10, rf_85_15, rf_85_19, rf_85_21, rf_85_22, rf_85_23, rf_85_26, rf_85_27, rf_85_28, rf_2, rf_11, rf_30, rf_45, rf_60, rf_27, sgr_31, sgr_46, sgr_61, slr_79, in_2, in_9, ln_9, in_11, in_16, ln_16, in_19, ln_19, in_22, ln_22, in_24, ln_24, in_26, ln_26, in_27, in_29, ln_29, in_30, in_44, ln_44, in_45, in_59, ln_59, in_60, in_73, ln_73, in_74, ln_74, in_75, ln_75, in_76, ln_76, in_77, ln_77, in_78, ln_78, in_80, ln_80, in_82, ln_82, in_84, ln_84, in_86, ln_86, in_87, ln_87, in_88, ln_88, in_89, ln_89, in_90, ln_90, in_91, ln_91, in_92, ln_92, in_93, ln_93, in_94, ln_94, in_95, ln_95, in_96, ln_96, in_97, ln_97, in_98, ln_98, in_99, ln_99, in_100, ln_100, in_101, ln_101, in_102, ln_102, sh_0, sh_1, sh_10, sh_17, sh_18, sh_20, sh_21, sh_23, sh_25, sh_28, sh_43, sh_58, sh_79, sh_81, sh_83, sh_85, sgk_31, sgi_31, sgk_46, sgi_46, sgk_61, sgi_61, slk_79, sli_79, ini_rw, ini_tx, li_0, li_1, li_2, li_3, li_4, li_5, li_6, li_7, li_8, li_9, li_10, li_11, li_12, li_13, li_14, li_15, li_16, li_31, li_32, li_36, li_40, li_48, li_53, li_55, li_56, li_57, li_58, li_60, li_63, li_64, li_80, li_97, li_98, li_99, li_100, li_103, li_104, li_108, li_115, li_116, li_118, li_200, li_256, li_1000, li_2256, not_true_eq_false, not_false_eq_true, Bool.false_eq_true, if_true, if_false, Nat.or_zero, Nat.zero_or, pk_rem, nI_m31, nI_sl, nI_bt, nI_or, nI_sub', nI_n9, nI_9n, nI_n1, bo_n0, bo_n1, bo_if, nI_if, nI_if0, nI_if1, if_10, if_11, t_bits, t_bc, t_has, nI_clamp, nI_add, pk_mul, pk_sub, nI_eq, nI_leI, nI_ltI, if_pos, if_neg, uI_at, uI_to, uI_ne, uF_at, uF_ne, V.n, V.kd, e3, fs, q, Nat.add_zero]
theorem m_kinds (V : MV h T E) {k : Nat} (hk : k < 6) : fX9_kindMany 85 (nI k) h = some (nI (cnt (fun i => isOfB (T.2.2.2.1 i) k) T.2.1), h) := by
  have H := V.H
  have b := V.b
  unfold fX9_kindMany fX9_kindMany_0 cnt
  refine lp (fun m j (x : Int32) => fX9_kindMany_4 m 85 (nI k) x (nI j) h) (fun j => nI (fs (fun i => if (fun i => isOfB (T.2.2.2.1 i) k) i = true then 1 else 0) j)) T.2.1 _ ?_ ?_ gz_fu 0 (by omega) (by show T.2.1 < 0 + 100000; omega)
  · intro m
    rw [fX9_kindMany_4]
    simp (disch := first | assumption | omega | trivial | rfl) only [ck_1, br_s, b2_s, bi_s, lt_d, bo_0, bo_1, lt_d, uI_1, uI_R, uI_L, uF_1, uF_R, uF_L, uL_1, uL_I, uL_R, uR_1, uR_I, uR_L, inb_uI, inb_uF, inb_uL, inb_uR, len_uI, len_uF, sh_uI, sh_uF, sh_uL, sh_uR, rf_0_0, rf_0_1, rf_0_2, rf_0_3, rf_0_4, rf_0_5, rf_0_6, rf_0_7, rf_0_8, rf_0_9, rf_0_12, rf_0_13, rf_0_14, rf_0_15, rf_0_16, rf_0_17, rf_1_1, rf_1_2, rf_10_1, rf_10_2, rf_18_0, rf_21_0, rf_23_0, rf_25_0, rf_79_0, rf_81_0, rf_83_0, rf_28_0, rf_28_1, rf_31_0, rf_33_0, rf_35_0, rf_37_0, rf_39_0, rf_41_0, rf_43_0, rf_43_1, rf_46_0, rf_48_0, rf_50_0, rf_52_0, rf_54_0, rf_56_0, rf_58_0, rf_58_1, rf_61_0, rf_63_0, rf_65_0, rf_67_0, rf_69_0, rf_71_0, rf_85_0, rf_85_2, rf_85_4, rf_85_5, rf_85_6, rf_85_7, rf_85_8, rf_85_9, rf_85_10, rf_85_15, rf_85_19, rf_85_21, rf_85_22, rf_85_23, rf_85_26, rf_85_27, rf_85_28, rf_2, rf_11, rf_30, rf_45, rf_60, rf_27, sgr_31, sgr_46, sgr_61, slr_79, in_2, in_9, ln_9, in_11, in_16, ln_16, in_19, ln_19, in_22, ln_22, in_24, ln_24, in_26, ln_26, in_27, in_29, ln_29, in_30, in_44, ln_44, in_45, in_59, ln_59, in_60, in_73, ln_73, in_74, ln_74, in_75, ln_75, in_76, ln_76, in_77, ln_77, in_78, ln_78, in_80, ln_80, in_82, ln_82, in_84, ln_84, in_86, ln_86, in_87, ln_87, in_88, ln_88, in_89, ln_89, in_90, ln_90, in_91, ln_91, in_92, ln_92, in_93, ln_93, in_94, ln_94, in_95, ln_95, in_96, ln_96, in_97, ln_97, in_98, ln_98, in_99, ln_99, in_100, ln_100, in_101, ln_101, in_102, ln_102, sh_0, sh_1, sh_10, sh_17, sh_18, sh_20, sh_21, sh_23, sh_25, sh_28, sh_43, sh_58, sh_79, sh_81, sh_83, sh_85, sgk_31, sgi_31, sgk_46, sgi_46, sgk_61, sgi_61, slk_79, sli_79, ini_rw, ini_tx, li_0, li_1, li_2, li_3, li_4, li_5, li_6, li_7, li_8, li_9, li_10, li_11, li_12, li_13, li_14, li_15, li_16, li_31, li_32, li_36, li_40, li_48, li_53, li_55, li_56, li_57, li_58, li_60, li_63, li_64, li_80, li_97, li_98, li_99, li_100, li_103, li_104, li_108, li_115, li_116, li_118, li_200, li_256, li_1000, li_2256, not_true_eq_false, not_false_eq_true, Bool.false_eq_true, if_true, if_false, Nat.or_zero, Nat.zero_or, pk_rem, nI_m31, nI_sl, nI_bt, nI_or, nI_sub', nI_n9, nI_9n, nI_n1, bo_n0, bo_n1, bo_if, nI_if, nI_if0, nI_if1, if_10, if_11, t_bits, t_bc, t_has, nI_clamp, nI_add, pk_mul, pk_sub, nI_eq, nI_leI, nI_ltI, if_pos, if_neg, uI_at, uI_to, uI_ne, uF_at, uF_ne, V.n]
  · intro m i hi
    have bi := V.bi i hi
    rw [fX9_kindMany_4]
    unfold fX9_kindMany_27
    by_cases q : isOfB (T.2.2.2.1 i) k = true
    · simp (disch := first | assumption | omega | trivial | rfl) only [ck_1, br_s, b2_s, bi_s, lt_d, bo_0, bo_1, lt_d, uI_1, uI_R, uI_L, uF_1, uF_R, uF_L, uL_1, uL_I, uL_R, uR_1, uR_I, uR_L, inb_uI, inb_uF, inb_uL, inb_uR, len_uI, len_uF, sh_uI, sh_uF, sh_uL, sh_uR, rf_0_0, rf_0_1, rf_0_2, rf_0_3, rf_0_4, rf_0_5, rf_0_6, rf_0_7, rf_0_8, rf_0_9, rf_0_12, rf_0_13, rf_0_14, rf_0_15, rf_0_16, rf_0_17, rf_1_1, rf_1_2, rf_10_1, rf_10_2, rf_18_0, rf_21_0, rf_23_0, rf_25_0, rf_79_0, rf_81_0, rf_83_0, rf_28_0, rf_28_1, rf_31_0, rf_33_0, rf_35_0, rf_37_0, rf_39_0, rf_41_0, rf_43_0, rf_43_1, rf_46_0, rf_48_0, rf_50_0, rf_52_0, rf_54_0, rf_56_0, rf_58_0, rf_58_1, rf_61_0, rf_63_0, rf_65_0, rf_67_0, rf_69_0, rf_71_0, rf_85_0, rf_85_2, rf_85_4, rf_85_5, rf_85_6, rf_85_7, rf_85_8, rf_85_9, rf_85_10, rf_85_15, rf_85_19, rf_85_21, rf_85_22, rf_85_23, rf_85_26, rf_85_27, rf_85_28, rf_2, rf_11, rf_30, rf_45, rf_60, rf_27, sgr_31, sgr_46, sgr_61, slr_79, in_2, in_9, ln_9, in_11, in_16, ln_16, in_19, ln_19, in_22, ln_22, in_24, ln_24, in_26, ln_26, in_27, in_29, ln_29, in_30, in_44, ln_44, in_45, in_59, ln_59, in_60, in_73, ln_73, in_74, ln_74, in_75, ln_75, in_76, ln_76, in_77, ln_77, in_78, ln_78, in_80, ln_80, in_82, ln_82, in_84, ln_84, in_86, ln_86, in_87, ln_87, in_88, ln_88, in_89, ln_89, in_90, ln_90, in_91, ln_91, in_92, ln_92, in_93, ln_93, in_94, ln_94, in_95, ln_95, in_96, ln_96, in_97, ln_97, in_98, ln_98, in_99, ln_99, in_100, ln_100, in_101, ln_101, in_102, ln_102, sh_0, sh_1, sh_10, sh_17, sh_18, sh_20, sh_21, sh_23, sh_25, sh_28, sh_43, sh_58, sh_79, sh_81, sh_83, sh_85, sgk_31, sgi_31, sgk_46, sgi_46, sgk_61, sgi_61, slk_79, sli_79, ini_rw, ini_tx, li_0, li_1, li_2, li_3, li_4, li_5, li_6, li_7, li_8, li_9, li_10, li_11, li_12, li_13, li_14, li_15, li_16, li_31, li_32, li_36, li_40, li_48, li_53, li_55, li_56, li_57, li_58, li_60, li_63, li_64, li_80, li_97, li_98, li_99, li_100, li_103, li_104, li_108, li_115, li_116, li_118, li_200, li_256, li_1000, li_2256, not_true_eq_false, not_false_eq_true, Bool.false_eq_true, if_true, if_false, Nat.or_zero, Nat.zero_or, pk_rem, nI_m31, nI_sl, nI_bt, nI_or, nI_sub', nI_n9, nI_9n, nI_n1, bo_n0, bo_n1, bo_if, nI_if, nI_if0, nI_if1, if_10, if_11, t_bits, t_bc, t_has, nI_clamp, nI_add, pk_mul, pk_sub, nI_eq, nI_leI, nI_ltI, if_pos, if_neg, uI_at, uI_to, uI_ne, uF_at, uF_ne, V.n, m_isOf V hi hk, fs, q]
    · simp (disch := first | assumption | omega | trivial | rfl) only [ck_1, br_s, b2_s, bi_s, lt_d, bo_0, bo_1, lt_d, uI_1, uI_R, uI_L, uF_1, uF_R, uF_L, uL_1, uL_I, uL_R, uR_1, uR_I, uR_L, inb_uI, inb_uF, inb_uL, inb_uR, len_uI, len_uF, sh_uI, sh_uF, sh_uL, sh_uR, rf_0_0, rf_0_1, rf_0_2, rf_0_3, rf_0_4, rf_0_5, rf_0_6, rf_0_7, rf_0_8, rf_0_9, rf_0_12, rf_0_13, rf_0_14, rf_0_15, rf_0_16, rf_0_17, rf_1_1, rf_1_2, rf_10_1, rf_10_2, rf_18_0, rf_21_0, rf_23_0, rf_25_0, rf_79_0, rf_81_0, rf_83_0, rf_28_0, rf_28_1, rf_31_0, rf_33_0, rf_35_0, rf_37_0, rf_39_0, rf_41_0, rf_43_0, rf_43_1, rf_46_0, rf_48_0, rf_50_0, rf_52_0, rf_54_0, rf_56_0, rf_58_0, rf_58_1, rf_61_0, rf_63_0, rf_65_0, rf_67_0, rf_69_0, rf_71_0, rf_85_0, rf_85_2, rf_85_4, rf_85_5, rf_85_6, rf_85_7, rf_85_8, rf_85_9, rf_85_10, rf_85_15, rf_85_19, rf_85_21, rf_85_22, rf_85_23, rf_85_26, rf_85_27, rf_85_28, rf_2, rf_11, rf_30, rf_45, rf_60, rf_27, sgr_31, sgr_46, sgr_61, slr_79, in_2, in_9, ln_9, in_11, in_16, ln_16, in_19, ln_19, in_22, ln_22, in_24, ln_24, in_26, ln_26, in_27, in_29, ln_29, in_30, in_44, ln_44, in_45, in_59, ln_59, in_60, in_73, ln_73, in_74, ln_74, in_75, ln_75, in_76, ln_76, in_77, ln_77, in_78, ln_78, in_80, ln_80, in_82, ln_82, in_84, ln_84, in_86, ln_86, in_87, ln_87, in_88, ln_88, in_89, ln_89, in_90, ln_90, in_91, ln_91, in_92, ln_92, in_93, ln_93, in_94, ln_94, in_95, ln_95, in_96, ln_96, in_97, ln_97, in_98, ln_98, in_99, ln_99, in_100, ln_100, in_101, ln_101, in_102, ln_102, sh_0, sh_1, sh_10, sh_17, sh_18, sh_20, sh_21, sh_23, sh_25, sh_28, sh_43, sh_58, sh_79, sh_81, sh_83, sh_85, sgk_31, sgi_31, sgk_46, sgi_46, sgk_61, sgi_61, slk_79, sli_79, ini_rw, ini_tx, li_0, li_1, li_2, li_3, li_4, li_5, li_6, li_7, li_8, li_9, li_10, li_11, li_12, li_13, li_14, li_15, li_16, li_31, li_32, li_36, li_40, li_48, li_53, li_55, li_56, li_57, li_58, li_60, li_63, li_64, li_80, li_97, li_98, li_99, li_100, li_103, li_104, li_108, li_115, li_116, li_118, li_200, li_256, li_1000, li_2256, not_true_eq_false, not_false_eq_true, Bool.false_eq_true, if_true, if_false, Nat.or_zero, Nat.zero_or, pk_rem, nI_m31, nI_sl, nI_bt, nI_or, nI_sub', nI_n9, nI_9n, nI_n1, bo_n0, bo_n1, bo_if, nI_if, nI_if0, nI_if1, if_10, if_11, t_bits, t_bc, t_has, nI_clamp, nI_add, pk_mul, pk_sub, nI_eq, nI_leI, nI_ltI, if_pos, if_neg, uI_at, uI_to, uI_ne, uF_at, uF_ne, V.n, m_isOf V hi hk, fs, q]
theorem x_there {s o b z c g : Nat} (S : gz_Sf h s o b z c g) : fX7_there s h = some (nI (cnt (fun k => decide (¬ h.2.1 z k = -1)) c), h) := by
  have S0 := S
  obtain ⟨s1, s2, s3, s4, s5, s6, s7, s8, s9⟩ := S
  unfold fX7_there fX7_there_0 cnt
  refine lp (fun m j (x : Int32) => fX7_there_4 m s x (nI j) h) (fun j => nI (fs (fun k => if (fun k => decide (¬ h.2.1 z k = -1)) k = true then 1 else 0) j)) c _ ?_ ?_ gz_fu 0 (by omega) (by show c < 0 + 100000; omega)
  · intro m
    rw [fX7_there_4, ck_t (sh_t s1), s3, br_s, len_s s5 (by decide), bi_s, if_pos (nI_le (Nat.le_refl _) (by omega))]
  · intro m k hk
    rw [fX7_there_4, ck_t (sh_t s1), s3, br_s, len_s s5 (by decide), bi_s, if_neg (nI_ge hk (by omega))]
    unfold fX7_there_24
    by_cases q : h.2.1 z k = -1
    · rw [p_has0 S0 hk q, b2_s, if_pos rfl, nI_1, fs, if_neg (by simp [q])]
      rfl
    · rw [p_has1 S0 hk q, b2_s, if_neg (by decide), nI_1, nI_1, fs, if_pos (by simp [q])]
theorem cnt_cg {p q : Nat → Bool} {n : Nat} (e : ∀ i, i < n → p i = q i) : cnt p n = cnt q n := fs_cg fun i hi => by rw [e i hi]
theorem cnt_ext {q : Nat → Bool} {n N : Nat} (hn : n ≤ N) : cnt (fun i => decide (i < n) && q i) N = cnt q n := by
  unfold cnt
  rw [← fs_ext hn]
  refine fs_cg fun i _ => ?_
  by_cases e : i < n <;> simp [e]
theorem m_there6 (H : gz_La h) (q : Nat → Bool) (hq : ∀ k, k < 6 → (0 ≤ h.2.1 91 k ↔ q k = true)) : fX9_thereOf 85 (nI 6) h = some (nI (cnt q 6), h) := by
  unfold fX9_thereOf fX9_thereOf_0 cnt
  refine lp (fun m j (x : Int32) => fX9_thereOf_4 m 85 (nI 6) x (nI j) h) (fun j => nI (fs (fun k => if q k = true then 1 else 0) j)) 6 _ ?_ ?_ gz_fu 0 (by omega) (by show 6 < 0 + 100000; omega)
  · intro m
    rw [fX9_thereOf_4, if_pos (by decide)]
  · intro m k hk
    rw [fX9_thereOf_4, if_neg (show ¬ (6 : Int32) ≤ nI k from nI_ge hk (by decide)), if_pos (by decide), ck_t (sh_85 H), rf_85_7 H, br_s, ck_t (in_91 H hk), nI_clamp (by omega)]
    unfold fX9_thereOf_89
    by_cases e : 0 ≤ h.2.1 91 k
    · rw [if_pos e, fs, if_pos ((hq k hk).mp e), nI_1, nI_1]
    · rw [if_neg e, fs, if_neg (fun z => e ((hq k hk).mpr z)), nI_1, show (0 : Int32) = nI 0 from rfl, nI_add]
theorem m_there7 (H : gz_La h) (q : Nat → Bool) (hq : ∀ k, k < 4 → (¬ h.2.1 93 k < 0 ↔ q k = true)) : fX9_thereOf 85 (nI 7) h = some (nI (cnt q 4), h) := by
  rw [← cnt_ext (show 4 ≤ 6 by decide)]
  unfold fX9_thereOf fX9_thereOf_0 cnt
  refine lp (fun m j (x : Int32) => fX9_thereOf_4 m 85 (nI 7) x (nI j) h) (fun j => nI (fs (fun k => if (fun i => decide (i < 4) && q i) k = true then 1 else 0) j)) 6 _ ?_ ?_ gz_fu 0 (by omega) (by show 6 < 0 + 100000; omega)
  · intro m
    rw [fX9_thereOf_4, if_pos (by decide)]
  · intro m k hk
    rw [fX9_thereOf_4, if_neg (show ¬ (6 : Int32) ≤ nI k from nI_ge hk (by decide)), if_neg (by decide), if_pos (by decide)]
    unfold fX9_thereOf_58 fX9_thereOf_89
    by_cases c : k < 4
    · rw [if_neg (show ¬ (4 : Int32) ≤ nI k from nI_ge c (by decide)), ck_t (sh_85 H), rf_85_9 H, br_s, ck_t (in_93 H c), nI_clamp (by omega)]
      by_cases e : h.2.1 93 k < 0
      · have q0 : q k = false := by
          cases z : q k
          · rfl
          · exact absurd e ((hq k c).mpr z)
        rw [if_pos e, fs, if_neg (by simp [q0]), nI_1, show (0 : Int32) = nI 0 from rfl, nI_add]
      · rw [if_neg e, fs, if_pos (by simp [c, (hq k c).mp e]), nI_1, nI_1]
    · rw [if_pos (show (4 : Int32) ≤ nI k from nI_le (a := 4) (by omega) (by omega)), fs, if_neg (by simp [c]), nI_1, show (0 : Int32) = nI 0 from rfl, nI_add]
theorem m_there8 (H : gz_La h) (q : Nat → Bool) (hq : ∀ k, k < 3 → (¬ h.2.1 86 (2256 * (k + 1)) < 0 ↔ q k = true)) : fX9_thereOf 85 (nI 8) h = some (nI (cnt q 3), h) := by
  rw [← cnt_ext (show 3 ≤ 6 by decide)]
  unfold fX9_thereOf fX9_thereOf_0 cnt
  refine lp (fun m j (x : Int32) => fX9_thereOf_4 m 85 (nI 8) x (nI j) h) (fun j => nI (fs (fun k => if (fun i => decide (i < 3) && q i) k = true then 1 else 0) j)) 6 _ ?_ ?_ gz_fu 0 (by omega) (by show 6 < 0 + 100000; omega)
  · intro m
    rw [fX9_thereOf_4, if_pos (by decide)]
  · intro m k hk
    rw [fX9_thereOf_4, if_neg (show ¬ (6 : Int32) ≤ nI k from nI_ge hk (by decide)), if_neg (by decide), if_neg (by decide)]
    unfold fX9_thereOf_88 fX9_thereOf_89
    by_cases c : k < 3
    · have ei : (2256 : Int32) * ((1 : Int32) + nI k) + (0 : Int32) = nI (2256 * (k + 1)) := by
        rw [show (2256 : Int32) = nI 2256 from rfl, show (1 : Int32) = nI 1 from rfl, show (0 : Int32) = nI 0 from rfl, nI_add, pk_mul, nI_add, Nat.add_comm 1 k]; rfl
      rw [if_neg (show ¬ (3 : Int32) ≤ nI k from nI_ge c (by decide)), ck_t (sh_85 H), rf_85_0 H, br_s, ei, ck_t (in_86 H (by omega)), nI_clamp (by omega)]
      by_cases e : h.2.1 86 (2256 * (k + 1)) < 0
      · have q0 : q k = false := by
          cases z : q k
          · rfl
          · exact absurd e ((hq k c).mpr z)
        rw [if_pos e, fs, if_neg (by simp [q0]), nI_1, show (0 : Int32) = nI 0 from rfl, nI_add]
      · rw [if_neg e, fs, if_pos (by simp [c, (hq k c).mp e]), nI_1, nI_1]
    · rw [if_pos (show (3 : Int32) ≤ nI k from nI_le (a := 3) (by omega) (by omega)), fs, if_neg (by simp [c]), nI_1, show (0 : Int32) = nI 0 from rfl, nI_add]
theorem x_kept (H : gz_La h) : fX8_keptFlocks 0 h = some (nI (cnt (fun k => decide (¬ h.2.1 (79 + 2 * k) 1 = -1)) 3), h) := by
  unfold fX8_keptFlocks fX8_keptFlocks_0 cnt
  refine lp (fun m j (x : Int32) => fX8_keptFlocks_4 m 0 x (nI j) h) (fun j => nI (fs (fun k => if (fun k => decide (¬ h.2.1 (79 + 2 * k) 1 = -1)) k = true then 1 else 0) j)) 3 _ ?_ ?_ gz_fu 0 (by omega) (by show 3 < 0 + 100000; omega)
  · intro m
    rw [fX8_keptFlocks_4, if_pos (by decide)]
  · intro m k hk
    rw [fX8_keptFlocks_4, if_neg (show ¬ (3 : Int32) ≤ nI k from nI_ge hk (by decide)), ck_t (sh_0 H), rf_0_8 H, br_s, ck_t (in_27 H hk), nI_clamp (by omega), rf_27 H hk, br_s, ck_t (slk_79 H hk)]
    unfold fX8_keptFlocks_25
    by_cases q : h.2.1 (79 + 2 * k) 1 = -1
    · rw [if_pos q, nI_1, fs, if_neg (by simp [q])]
      rfl
    · rw [if_neg q, nI_1, nI_1, fs, if_pos (by simp [q])]
end
section
variable {h : gz_H}
theorem size_neg {x : Int32} {b : Nat} (e : x = -1 ∨ ∃ n, n ≤ b ∧ x = nI n) (hb : b < 2 ^ 30) : (¬ x < 0 ↔ decide (¬ x = -1) = true) ∧ (0 ≤ x ↔ decide (¬ x = -1) = true) := by
  rcases e with rfl | ⟨n, hn, rfl⟩
  · exact ⟨by decide, by decide⟩
  · rw [decide_eq_true (n_ne n (by omega))]
    exact ⟨⟨fun _ => rfl, fun _ => nI_pos (by omega)⟩, ⟨fun _ => rfl, fun _ => nI_pos' (by omega)⟩⟩
/-- a count, both ways -/
theorem ct_both (I : gz_Iv h) {w : Nat} (hw : w < 9) : ∃ v, fX8_countOf 0 (nI w) h = some (v, h) ∧ fX9_countOf 85 (nI w) h = some (v, h) := by
  obtain ⟨T, D, ds, ks, sa, F⟩ := I.2
  obtain ⟨_, Fx, Rw, Tx, Sc⟩ := I.1
  have V := F.xv I.1.1
  have W := F.mv I.1.1
  have H := V.H
  have b := V.b
  have g6 := gb_lt (E := rn T D ds) T.2.1 b.2
  have al := alv_pc (E := rn T D ds) b.2
  unfold fX8_countOf fX8_countOf_0 fX9_countOf fX9_countOf_0
  match w, hw with
  | 0, _ =>
    refine ⟨nI T.2.1, ?_, ?_⟩
    · rw [if_pos (by decide), ck_t (sh_0 H), rf_0_9 H, br_s, ck_t (sh_28 H), V.n]
    · rw [if_pos (by decide), ck_t (sh_85 H), W.n]
  | 1, _ =>
    refine ⟨nI T.1, ?_, ?_⟩
    · rw [if_neg (by decide), if_pos (by decide), ck_t (sh_0 H), rf_0_9 H, br_s, ck_t (sh_28 H), V.f]
    · rw [if_neg (by decide), if_pos (by decide), ck_t (sh_85 H), W.f]
  | 2, _ =>
    refine ⟨nI (T.2.1 - pc (gbits T.2.1 (rn T D ds))), ?_, ?_⟩
    · rw [if_neg (by decide), if_neg (by decide), if_pos (by decide), ck_t (sh_0 H), rf_0_9 H, br_s, ck_t (sh_28 H), x_alive V, b2_s]
    · rw [if_neg (by decide), if_neg (by decide), if_pos (by decide), ck_t (sh_85 H), rf_85_0 H, br_s, show (1 : Int32) = nI 1 from rfl, ck_t (in_86 H (by decide)), nI_clamp (by decide), W.gb, t_bits (by omega), b2_s, W.n, pk_sub al.2]
  | 3, _ =>
    refine ⟨nI ds.length, ?_, ?_⟩
    · rw [if_neg (by decide), if_neg (by decide), if_neg (by decide), if_pos (by decide), ck_t (sh_0 H), rf_0_7 H, br_s, ck_t (sh_25 H), F.2.2.1.2.2.1.1]
    · rw [if_neg (by decide), if_neg (by decide), if_neg (by decide), if_pos (by decide), ck_t (sh_85 H), rf_85_0 H, br_s, show (0 : Int32) = nI 0 from rfl, ck_t (in_86 H (by decide)), nI_clamp (by decide), F.2.2.2.2.1.1]
  | 4, _ =>
    refine ⟨nI (cnt (fun i => isOfB (T.2.2.2.1 i) 1) T.2.1), ?_, ?_⟩
    · rw [if_neg (by decide), if_neg (by decide), if_neg (by decide), if_neg (by decide), if_pos (by decide), ck_t (sh_0 H), rf_0_9 H, br_s, ck_t (sh_28 H), show (1 : Int32) = nI 1 from rfl, x_kinds V (by decide), b2_s]
    · rw [if_neg (by decide), if_neg (by decide), if_neg (by decide), if_neg (by decide), if_pos (by decide), ck_t (sh_85 H), show (1 : Int32) = nI 1 from rfl, m_kinds W (by decide), b2_s]
  | 5, _ =>
    refine ⟨nI (cnt (fun i => isOfB (T.2.2.2.1 i) 3) T.2.1), ?_, ?_⟩
    · rw [if_neg (by decide), if_neg (by decide), if_neg (by decide), if_neg (by decide), if_neg (by decide), if_pos (by decide), ck_t (sh_0 H), rf_0_9 H, br_s, ck_t (sh_28 H), show (3 : Int32) = nI 3 from rfl, x_kinds V (by decide), b2_s]
    · rw [if_neg (by decide), if_neg (by decide), if_neg (by decide), if_neg (by decide), if_neg (by decide), if_pos (by decide), ck_t (sh_85 H), show (3 : Int32) = nI 3 from rfl, m_kinds W (by decide), b2_s]
  | 6, _ =>
    refine ⟨nI (cnt (fun k => decide (¬ h.2.1 9 k = -1)) 6), ?_, ?_⟩
    · rw [if_neg (by decide), if_neg (by decide), if_neg (by decide), if_neg (by decide), if_neg (by decide), if_neg (by decide), if_pos (by decide), ck_t (sh_0 H), rf_0_0 H, br_s, ck_t (sh_1 H), x_there (H.rows Fx), b2_s]
    · rw [if_neg (by decide), if_neg (by decide), if_neg (by decide), if_neg (by decide), if_neg (by decide), if_neg (by decide), ck_t (sh_85 H), m_there6 H _ (fun k hk => by rw [← (Rw k hk).1]; exact (size_neg (Rw k hk).2.1 (by decide)).2), b2_s]
  | 7, _ =>
    refine ⟨nI (cnt (fun k => decide (¬ h.2.1 16 k = -1)) 4), ?_, ?_⟩
    · rw [if_neg (by decide), if_neg (by decide), if_neg (by decide), if_neg (by decide), if_neg (by decide), if_neg (by decide), if_neg (by decide), if_pos (by decide), ck_t (sh_0 H), rf_0_1 H, br_s, ck_t (sh_10 H), x_there (H.texts Fx), b2_s]
    · rw [if_neg (by decide), if_neg (by decide), if_neg (by decide), if_neg (by decide), if_neg (by decide), if_neg (by decide), ck_t (sh_85 H), m_there7 H _ (fun k hk => by rw [← (Tx k hk).1]; exact (size_neg (Tx k hk).2.1 (by decide)).1), b2_s]
  | 8, _ =>
    refine ⟨nI (cnt (fun k => decide (¬ h.2.1 (79 + 2 * k) 1 = -1)) 3), ?_, ?_⟩
    · rw [if_neg (by decide), if_neg (by decide), if_neg (by decide), if_neg (by decide), if_neg (by decide), if_neg (by decide), if_neg (by decide), if_neg (by decide), ck_t (sh_0 H), x_kept H, b2_s]
    · rw [if_neg (by decide), if_neg (by decide), if_neg (by decide), if_neg (by decide), if_neg (by decide), if_neg (by decide), ck_t (sh_85 H), m_there8 H _ (fun k hk => ?_), b2_s]
      have x4 := F.2.2.1.2.2.2 k hk
      have m3 := F.2.2.2.2.2 k hk
      have ke := F.1.2.2.2.2 k
      unfold xk at x4
      unfold mk at m3
      cases e : ks k with
      | none =>
        rw [e] at x4 m3
        rw [m3, x4]
        decide
      | some es =>
        rw [e] at x4 m3
        have hl := (ke es hk e).1
        rw [m3.1, x4.1]
        exact (size_neg (b := 40) (Or.inr ⟨es.length, hl, rfl⟩) (by decide)).1
theorem op_count (I : gz_Iv h) (x1 : Int32) : gz_ag (fX8_count 0 x1) (fX9_count 85 x1) h gz_Iv := by
  have H := I.1.1
  rcases p_cases x1 9 (by omega) with hx | ⟨i, hi, rfl⟩
  · refine q_same I (v := -1) fun _ _ _ _ => ⟨h, h, ?_, sc.rf, ?_, sc.rf⟩
    · unfold fX8_count fX8_count_0 fX8_count_10
      by_cases q : x1 < 0
      · rw [if_pos q]
      · rw [if_neg q, if_neg (show ¬ x1 < (9 : Int32) from Int32.not_lt.mpr (hx.resolve_left q))]
    · have e1 : fX9_in x1.toInt64 0 8 h = some (0, h) := p_in0_out (n := 9) (by decide) hx
      unfold fX9_count fX9_count_0
      rw [e1, b2_s, if_pos rfl]
  · obtain ⟨v, e1, e2⟩ := ct_both I hi
    refine q_same I (v := v) fun _ _ _ _ => ⟨h, h, ?_, sc.rf, ?_, sc.rf⟩
    · unfold fX8_count fX8_count_0
      rw [if_neg (nI_pos (by omega)), if_pos (show nI i < (9 : Int32) from nI_lt hi (by decide)), ck_t (sh_0 H), e1, b2_s]
    · have e3 : fX9_in (nI i).toInt64 0 8 h = some (1, h) := p_in0_in (n := 9) (by decide) hi
      unfold fX9_count fX9_count_0
      rw [e3, b2_s, if_neg (by decide), ck_t (sh_85 H), e2, b2_s]
end
