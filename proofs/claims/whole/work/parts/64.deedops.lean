/-! PURE: give, fright, mix, eat agree -/
section
variable {h : gz_H} {T : gz_T} {E : gz_D}
theorem dc_enc : ∀ (a : Fin 4) (i : Fin 6) (j : Fin 16), ((nI a.1 <<< (nI 8 &&& nI 31)) ||| (nI i.1 <<< (nI 4 &&& nI 31))) ||| nI j.1 = nI (dcode (a.1, i.1, j.1)) := by decide +kernel
theorem dc_d1 : ∀ (a : Fin 4) (i : Fin 6) (j : Fin 16), nI (dcode (a.1, i.1, j.1)) >>> (nI 8 &&& nI 31) = nI a.1 ∧ (nI (dcode (a.1, i.1, j.1)) >>> (nI 4 &&& nI 31)) &&& nI 15 = nI i.1 ∧ nI (dcode (a.1, i.1, j.1)) &&& nI 15 = nI j.1 := by decide +kernel
theorem vd_b {d : gz_De} (w : wsT T) (v : vd T d) : d.1 < 4 ∧ d.2.1 < 6 ∧ d.2.2 < 16 := by
  obtain ⟨a, i, j⟩ := d
  obtain ⟨v1, v2, v3, v4, v5, v6⟩ := v
  have h1 := w.1
  have h2 := w.2.1
  dsimp only at *
  refine ⟨by omega, by omega, ?_⟩
  match a, v1 with
  | 0, _ => have := v3 rfl; omega
  | 1, _ => have := v4 rfl; omega
  | 2, _ => have := v5 rfl; omega
  | 3, _ => have := v6 rfl; omega
theorem dc_n {d : gz_De} (w : wsT T) (v : vd T d) : ((nI d.1 <<< ((8 : Int32) &&& 31)) ||| (nI d.2.1 <<< ((4 : Int32) &&& 31))) ||| nI d.2.2 = nI (dcode d) := by
  have b := vd_b w v
  exact dc_enc ⟨d.1, b.1⟩ ⟨d.2.1, b.2.1⟩ ⟨d.2.2, b.2.2⟩
theorem dc_x {d : gz_De} (w : wsT T) (v : vd T d) : nI (dcode d) >>> ((8 : Int32) &&& 31) = nI d.1 ∧ (nI (dcode d) >>> ((4 : Int32) &&& 31)) &&& 15 = nI d.2.1 ∧ nI (dcode d) &&& 15 = nI d.2.2 := by
  have b := vd_b w v
  exact dc_d1 ⟨d.1, b.1⟩ ⟨d.2.1, b.2.1⟩ ⟨d.2.2, b.2.2⟩
/-- the log is longer by one -/
theorem x_note (H : gz_La h) {ds : List gz_De} (L : lgv h 25 ds) (hl : ds.length < 40) {d : gz_De} (w : wsT T) (v : vd T d) : ∃ h', fX3_note 25 (nI d.1) (nI d.2.1) (nI d.2.2) h = some ((), h') ∧ lgv h' 25 (ds ++ [d]) ∧ h'.1 = h.1 ∧ h'.2.2 = h.2.2 ∧ ∀ a k, a ≠ 25 → a ≠ 26 → h'.2.1 a k = h.2.1 a k := by
  refine ⟨uI (uI h 25 1 (nI (ds.length + 1))) 26 ds.length (nI (dcode d)), ?_, ⟨by rw [uI_ne (by omega), uI_at]; simp, fun k hk => ?_⟩, rfl, rfl, fun a k h1 h2 => by rw [uI_ne (by omega), uI_ne (by omega)]⟩
  · unfold fX3_note fX3_note_0
    rw [ck_t (sh_25 H), L.1, if_pos (show nI ds.length < (40 : Int32) from nI_lt hl (by decide)), rf_25_0 H, br_s, lt_d, nI_1, inb_uI, ck_t (in_26 H hl), nI_clamp (by omega), lt_d, dc_n w v]
  · have hk2 : k < ds.length + 1 := by simpa using hk
    by_cases c : k = ds.length
    · subst c
      show (uI _ 26 _ _).2.1 26 _ = _
      rw [uI_at, List.getD_eq_getElem?_getD, List.getElem?_append_right (Nat.le_refl _)]
      simp
    · show (uI _ 26 _ _).2.1 26 _ = _
      rw [uI_ne (by omega), uI_ne (by omega), List.getD_eq_getElem?_getD, List.getElem?_append_left (by omega), ← List.getD_eq_getElem?_getD]
      exact L.2 k (by omega)
/-! the past is kept -/
theorem m_keepPast (H : gz_La h) {n : Nat} (e0 : h.2.1 86 0 = nI n) (hn : n < 40) : ∃ h', fX9_keepPast 85 h = some ((), h') ∧ h'.1 = h.1 ∧ h'.2.2 = h.2.2 ∧ h'.2.1 86 0 = nI (n + 1) ∧ (∀ k, k < 55 → h'.2.1 86 (56 + 55 * n + k) = h.2.1 86 (1 + k)) ∧ ∀ a k, a ≠ 86 ∨ (k ≠ 0 ∧ (k < 56 + 55 * n ∨ 111 + 55 * n ≤ k)) → h'.2.1 a k = h.2.1 a k := by
  unfold fX9_keepPast fX9_keepPast_0
  have hfu : 55 < 0 + gz_fu := by show 55 < 0 + 100000; omega
  generalize gz_fu = fu at hfu ⊢
  refine lpr (fun m k (s : gz_H) => fX9_keepPast_2 m 85 (nI k) s) (fun k s => s.1 = h.1 ∧ s.2.2 = h.2.2 ∧ (∀ q, q < k → s.2.1 86 (56 + 55 * n + q) = h.2.1 86 (1 + q)) ∧ ∀ a q, a ≠ 86 ∨ (q < 56 + 55 * n ∨ 111 + 55 * n ≤ q) → s.2.1 a q = h.2.1 a q) 55 (fun r => ∃ h', r = some ((), h') ∧ h'.1 = h.1 ∧ h'.2.2 = h.2.2 ∧ h'.2.1 86 0 = nI (n + 1) ∧ (∀ k, k < 55 → h'.2.1 86 (56 + 55 * n + k) = h.2.1 86 (1 + k)) ∧ ∀ a k, a ≠ 86 ∨ (k ≠ 0 ∧ (k < 56 + 55 * n ∨ 111 + 55 * n ≤ k)) → h'.2.1 a k = h.2.1 a k) ?_ ?_ fu 0 h (by omega) hfu ⟨rfl, rfl, fun q hq => absurd hq (by omega), fun _ _ _ => rfl⟩
  · intro m s ⟨s1, s2, s3, s4⟩
    have H1 : gz_La s := H.of s1 (congrArg Prod.snd s2)
    have e1 : s.2.1 86 0 = nI n := by rw [s4 86 0 (by omega)]; exact e0
    refine ⟨uI s 86 0 (nI (n + 1)), ?_, s1, s2, uI_at, fun k hk => by rw [uI_ne (by omega)]; exact s3 k hk, fun a k q => by rw [uI_ne (by omega)]; exact s4 a k (by omega)⟩
    rw [fX9_keepPast_2]
    simp (disch := first | assumption | omega | trivial | rfl) only [ck_1, br_s, b2_s, bi_s, lt_d, bo_0, bo_1, lt_d, uI_1, uI_R, uI_L, uF_1, uF_R, uF_L, uL_1, uL_I, uL_R, uR_1, uR_I, uR_L, inb_uI, inb_uF, inb_uL, inb_uR, len_uI, len_uF, sh_uI, sh_uF, sh_uL, sh_uR, rf_0_0, rf_0_1, rf_0_2, rf_0_3, rf_0_4, rf_0_5, rf_0_6, rf_0_7, rf_0_8, rf_0_9, rf_0_12, rf_0_13, rf_0_14, rf_0_15, rf_0_16, rf_0_17, rf_1_1, rf_1_2, rf_10_1, rf_10_2, rf_18_0, rf_21_0, rf_23_0, rf_25_0, rf_79_0, rf_81_0, rf_83_0, rf_28_0, rf_28_1, rf_31_0, rf_33_0, rf_35_0, rf_37_0, rf_39_0, rf_41_0, rf_43_0, rf_43_1, rf_46_0, rf_48_0, rf_50_0, rf_52_0, rf_54_0, rf_56_0, rf_58_0, rf_58_1, rf_61_0, rf_63_0, rf_65_0, rf_67_0, rf_69_0, rf_71_0, rf_85_0, rf_85_2, rf_85_4, rf_85_5, rf_85_6, rf_85_7, rf_85_8, rf_85_9, rf_85_10, rf_85_15, rf_85_19, rf_85_21, rf_85_22, rf_85_23, rf_85_26, rf_85_27, rf_85_28, rf_2, rf_11, rf_30, rf_45, rf_60, rf_27, sgr_31, sgr_46, sgr_61, slr_79, in_2, in_9, ln_9, in_11, in_16, ln_16, in_19, ln_19, in_22, ln_22, in_24, ln_24, in_26, ln_26, in_27, in_29, ln_29, in_30, in_44, ln_44, in_45, in_59, ln_59, in_60, in_73, ln_73, in_74, ln_74, in_75, ln_75, in_76, ln_76, in_77, ln_77, in_78, ln_78, in_80, ln_80, in_82, ln_82, in_84, ln_84, in_86, ln_86, in_87, ln_87, in_88, ln_88, in_89, ln_89, in_90, ln_90, in_91, ln_91, in_92, ln_92, in_93, ln_93, in_94, ln_94, in_95, ln_95, in_96, ln_96, in_97, ln_97, in_98, ln_98, in_99, ln_99, in_100, ln_100, in_101, ln_101, in_102, ln_102, sh_0, sh_1, sh_10, sh_17, sh_18, sh_20, sh_21, sh_23, sh_25, sh_28, sh_43, sh_58, sh_79, sh_81, sh_83, sh_85, sgk_31, sgi_31, sgk_46, sgi_46, sgk_61, sgi_61, slk_79, sli_79, ini_rw, ini_tx, li_0, li_1, li_2, li_3, li_4, li_5, li_6, li_7, li_8, li_9, li_10, li_11, li_12, li_13, li_14, li_15, li_16, li_31, li_32, li_36, li_40, li_48, li_53, li_55, li_56, li_57, li_58, li_60, li_63, li_64, li_80, li_97, li_98, li_99, li_100, li_103, li_104, li_108, li_115, li_116, li_118, li_200, li_256, li_1000, li_2256, not_true_eq_false, not_false_eq_true, Bool.false_eq_true, if_true, if_false, Nat.or_zero, Nat.zero_or, pk_rem, nI_m31, nI_sl, nI_bt, nI_or, nI_sub', nI_n9, nI_9n, nI_n1, bo_n0, bo_n1, bo_if, nI_if, nI_if0, nI_if1, if_10, if_11, t_bits, t_bc, t_has, nI_clamp, nI_add, pk_mul, pk_sub, nI_eq, nI_leI, nI_ltI, if_pos, if_neg, uI_at, uI_to, uI_ne, uF_at, uF_ne, e1]
  · intro m k s hk ⟨s1, s2, s3, s4⟩
    have H1 : gz_La s := H.of s1 (congrArg Prod.snd s2)
    have e1 : s.2.1 86 0 = nI n := by rw [s4 86 0 (by omega)]; exact e0
    have e2 : s.2.1 86 (1 + k) = h.2.1 86 (1 + k) := s4 86 (1 + k) (by omega)
    refine ⟨uI s 86 (56 + 55 * n + k) (h.2.1 86 (1 + k)), ⟨s1, s2, fun q hq => ?_, fun a q z => by rw [uI_ne (by omega)]; exact s4 a q z⟩, ?_⟩
    · by_cases c : q = k
      · rw [c, uI_at]
      · rw [uI_ne (by omega)]; exact s3 q (by omega)
    · rw [fX9_keepPast_2]
      simp (disch := first | assumption | omega | trivial | rfl) only [ck_1, br_s, b2_s, bi_s, lt_d, bo_0, bo_1, lt_d, uI_1, uI_R, uI_L, uF_1, uF_R, uF_L, uL_1, uL_I, uL_R, uR_1, uR_I, uR_L, inb_uI, inb_uF, inb_uL, inb_uR, len_uI, len_uF, sh_uI, sh_uF, sh_uL, sh_uR, rf_0_0, rf_0_1, rf_0_2, rf_0_3, rf_0_4, rf_0_5, rf_0_6, rf_0_7, rf_0_8, rf_0_9, rf_0_12, rf_0_13, rf_0_14, rf_0_15, rf_0_16, rf_0_17, rf_1_1, rf_1_2, rf_10_1, rf_10_2, rf_18_0, rf_21_0, rf_23_0, rf_25_0, rf_79_0, rf_81_0, rf_83_0, rf_28_0, rf_28_1, rf_31_0, rf_33_0, rf_35_0, rf_37_0, rf_39_0, rf_41_0, rf_43_0, rf_43_1, rf_46_0, rf_48_0, rf_50_0, rf_52_0, rf_54_0, rf_56_0, rf_58_0, rf_58_1, rf_61_0, rf_63_0, rf_65_0, rf_67_0, rf_69_0, rf_71_0, rf_85_0, rf_85_2, rf_85_4, rf_85_5, rf_85_6, rf_85_7, rf_85_8, rf_85_9, rf_85_10, rf_85_15, rf_85_19, rf_85_21, rf_85_22, rf_85_23, rf_85_26, rf_85_27, rf_85_28, rf_2, rf_11, rf_30, rf_45, rf_60, rf_27, sgr_31, sgr_46, sgr_61, slr_79, in_2, in_9, ln_9, in_11, in_16, ln_16, in_19, ln_19, in_22, ln_22, in_24, ln_24, in_26, ln_26, in_27, in_29, ln_29, in_30, in_44, ln_44, in_45, in_59, ln_59, in_60, in_73, ln_73, in_74, ln_74, in_75, ln_75, in_76, ln_76, in_77, ln_77, in_78, ln_78, in_80, ln_80, in_82, ln_82, in_84, ln_84, in_86, ln_86, in_87, ln_87, in_88, ln_88, in_89, ln_89, in_90, ln_90, in_91, ln_91, in_92, ln_92, in_93, ln_93, in_94, ln_94, in_95, ln_95, in_96, ln_96, in_97, ln_97, in_98, ln_98, in_99, ln_99, in_100, ln_100, in_101, ln_101, in_102, ln_102, sh_0, sh_1, sh_10, sh_17, sh_18, sh_20, sh_21, sh_23, sh_25, sh_28, sh_43, sh_58, sh_79, sh_81, sh_83, sh_85, sgk_31, sgi_31, sgk_46, sgi_46, sgk_61, sgi_61, slk_79, sli_79, ini_rw, ini_tx, li_0, li_1, li_2, li_3, li_4, li_5, li_6, li_7, li_8, li_9, li_10, li_11, li_12, li_13, li_14, li_15, li_16, li_31, li_32, li_36, li_40, li_48, li_53, li_55, li_56, li_57, li_58, li_60, li_63, li_64, li_80, li_97, li_98, li_99, li_100, li_103, li_104, li_108, li_115, li_116, li_118, li_200, li_256, li_1000, li_2256, not_true_eq_false, not_false_eq_true, Bool.false_eq_true, if_true, if_false, Nat.or_zero, Nat.zero_or, pk_rem, nI_m31, nI_sl, nI_bt, nI_or, nI_sub', nI_n9, nI_9n, nI_n1, bo_n0, bo_n1, bo_if, nI_if, nI_if0, nI_if1, if_10, if_11, t_bits, t_bc, t_has, nI_clamp, nI_add, pk_mul, pk_sub, nI_eq, nI_leI, nI_ltI, if_pos, if_neg, uI_at, uI_to, uI_ne, uF_at, uF_ne, e1, e2]
/-- a flock of the reference, moved -/
theorem mv_mov {h' : gz_H} {B B' n : Nat} (hn : n ≤ 6) (dl : ∀ i, i < n → (E i).1.length ≤ 8) (x : mv h B n E) (e : ∀ k, k < 55 → h'.2.1 86 (B' + 1 + k) = h.2.1 86 (B + 1 + k)) : mv h' B' n E := by
  obtain ⟨x1, x2⟩ := x
  refine ⟨?_, fun i hi => ⟨?_, fun k hk => ?_⟩⟩
  · have := e 0 (by omega)
    rw [Nat.add_zero, Nat.add_zero] at this
    rw [this]; exact x1
  · have := e (1 + i) (by omega)
    rw [show B' + 1 + (1 + i) = B' + 2 + i by omega, show B + 1 + (1 + i) = B + 2 + i by omega] at this
    rw [this]; exact (x2 i hi).1
  · have dl := dl i hi
    have := e (7 + 8 * i + k) (by omega)
    rw [show B' + 1 + (7 + 8 * i + k) = B' + 8 + 8 * i + k by omega, show B + 1 + (7 + 8 * i + k) = B + 8 + 8 * i + k by omega] at this
    rw [this]; exact (x2 i hi).2 k hk
theorem mb_mov {h' : gz_H} {B B' : Nat} {D : gz_D} {ds : List gz_De} (w : wsT T) (g : gl T D ds) (x : mb h B T D ds) (e : ∀ k, k < 2256 → h'.2.1 86 (B' + k) = h.2.1 86 (B + k)) : mb h' B' T D ds := by
  obtain ⟨x1, x2, x3⟩ := x
  have hl := g.1
  have wl : ∀ n, n ≤ ds.length → ∀ i, i < T.2.1 → (rn T D (ds.take n) i).1.length ≤ 8 := fun n hn i hi => Nat.le_trans (g.2.2.1 n hn i hi).1 (w.bi i hi).2.2.1
  refine ⟨by have := e 0 (by omega); rw [Nat.add_zero, Nat.add_zero] at this; rw [this]; exact x1, ?_, fun n hn => ?_⟩
  · have w0 := wl ds.length (Nat.le_refl _)
    rw [List.take_length] at w0
    exact mv_mov w.2.1 w0 x2 (fun k hk => by rw [Nat.add_assoc, Nat.add_assoc]; exact e (1 + k) (by omega))
  · exact mv_mov w.2.1 (wl n (by omega)) (x3 n hn) (fun k hk => by
      have := e (55 + 55 * n + 1 + k) (by omega)
      rw [show B' + (55 + 55 * n + 1 + k) = B' + 55 + 55 * n + 1 + k by omega, show B + (55 + 55 * n + 1 + k) = B + 55 + 55 * n + 1 + k by omega] at this
      exact this)
/-- after keepPast and a deed -/
theorem mb_add {D : gz_D} {ds : List gz_De} {d : gz_De} {h1 h2 : gz_H} (w : wsT T) (g : gl T D (ds ++ [d])) (x : mb h 0 T D ds) (e0 : h1.2.1 86 0 = nI (ds.length + 1)) (e1 : ∀ k, k < 55 → h1.2.1 86 (56 + 55 * ds.length + k) = h.2.1 86 (1 + k)) (e2 : ∀ k, k ≠ 0 ∧ (k < 56 + 55 * ds.length ∨ 111 + 55 * ds.length ≤ k) → h1.2.1 86 k = h.2.1 86 k) (o : ∀ k, (56 ≤ k ∨ k = 0) → h2.2.1 86 k = h1.2.1 86 k) (m : mv h2 0 T.2.1 (pf T (rn T D ds) d)) : mb h2 0 T D (ds ++ [d]) := by
  obtain ⟨x1, x2, x3⟩ := x
  have hl : ds.length < 40 := by have := g.1; simp at this; omega
  have wl : ∀ n, n ≤ ds.length → ∀ i, i < T.2.1 → (rn T D (ds.take n) i).1.length ≤ 8 := fun n hn i hi => by
    have := g.2.2.1 n (by simp; omega) i hi
    rw [List.take_append_of_le_length hn] at this
    exact Nat.le_trans this.1 (w.bi i hi).2.2.1
  refine ⟨by rw [o 0 (by omega), e0]; simp, by rw [rn_add]; exact m, fun n hn => ?_⟩
  have hn2 : n < ds.length + 1 := by simpa using hn
  rw [List.take_append_of_le_length (by omega)]
  by_cases c : n = ds.length
  · subst c
    rw [List.take_length]
    have w0 := wl ds.length (Nat.le_refl _)
    rw [List.take_length] at w0
    exact mv_mov w.2.1 w0 x2 (fun k hk => by
      rw [o _ (by omega), show 0 + 55 + 55 * ds.length + 1 + k = 56 + 55 * ds.length + k by omega, show 0 + 1 + k = 1 + k by omega]
      exact e1 k hk)
  · exact mv_mov w.2.1 (wl n (by omega)) (x3 n (by omega)) (fun k hk => by
      rw [o _ (by omega)]
      exact e2 _ (by omega))
end
/-- the class changes what is its own: geese of now, its log -/
def fA (h h' : gz_H) : Prop := h'.1 = h.1 ∧ h'.2.2 = h.2.2 ∧ ∀ a k, ¬ (25 ≤ a ∧ a ≤ 42) → h'.2.1 a k = h.2.1 a k
/-- the reference changes its row (and scratch) -/
def fB (h h' : gz_H) : Prop := h'.1 = h.1 ∧ h'.2.2 = h.2.2 ∧ (∀ a k, a ≠ 86 → ¬ scr a k → h'.2.1 a k = h.2.1 a k) ∧ ∀ k, 2256 ≤ k → h'.2.1 86 k = h.2.1 86 k
theorem mb_far {h h' : gz_H} {B : Nat} {T : gz_T} {D : gz_D} {ds : List gz_De} (H : mb h B T D ds) (e : ∀ k, B ≤ k → h'.2.1 86 k = h.2.1 86 k) : mb h' B T D ds := by
  obtain ⟨x1, x2, x3⟩ := H
  refine ⟨by rw [e B (by omega)]; exact x1, ⟨by rw [e _ (by omega)]; exact x2.1, fun i hi => ⟨by rw [e _ (by omega)]; exact (x2.2 i hi).1, fun k hk => by rw [e _ (by omega)]; exact (x2.2 i hi).2 k hk⟩⟩, fun n hn => ?_⟩
  have y := x3 n hn
  exact ⟨by rw [e _ (by omega)]; exact y.1, fun i hi => ⟨by rw [e _ (by omega)]; exact (y.2 i hi).1, fun k hk => by rw [e _ (by omega)]; exact (y.2 i hi).2 k hk⟩⟩
theorem asm {h h1 h2 : gz_H} {T : gz_T} {D : gz_D} {ds ds' : List gz_De} {ks : Nat → Option (List gz_De)} {sa : Nat} (I : gz_In h) (F : gz_Fv h T D ds ks sa) (a : fA h h1) (b : fB h1 h2) (g : gl T D ds') (x : xv h1 28 T (rn T D ds')) (l : lgv h1 25 ds') (m : mb h2 0 T D ds') : gz_Iv h2 := by
  obtain ⟨H, Fx, Rw, Tx, Sc⟩ := I
  obtain ⟨⟨w, wD, al, gl0, gk⟩, ⟨s1, s2, s3⟩, ⟨x1, x2, x3, x4⟩, ⟨m1, m2, m3⟩⟩ := F
  have e1 : h2.1 = h.1 := b.1.trans a.1
  have e2 : h2.2.2 = h.2.2 := b.2.1.trans a.2.1
  have e3 : h2.2.2.2 = h.2.2.2 := congrArg Prod.snd e2
  have oA : ∀ x k, (x < 25 ∨ (42 < x ∧ x < 73) ∨ (78 < x ∧ x < 85) ∨ (x = 85 ∧ k ≠ 25) ∨ (86 < x ∧ x < 100)) → ¬ (21 ≤ x ∧ x ≤ 24) → h2.2.1 x k = h.2.1 x k := fun x k q q2 => by
    rw [b.2.2.1 x k (by omega) (by unfold scr; omega), a.2.2 x k (by omega)]
  have oB : ∀ x k, 25 ≤ x → x ≤ 42 → h2.2.1 x k = h1.2.1 x k := fun x k q1 q2 => b.2.2.1 x k (by omega) (by unfold scr; omega)
  have o86 : ∀ k, 2256 ≤ k → h2.2.1 86 k = h.2.1 86 k := fun k hk => by rw [b.2.2.2 k hk, a.2.2 86 k (by omega)]
  refine ⟨⟨H.of e1 e3, Fx.cg (fun a k q => oA a k (by omega) (by omega)), Rw.cg (fun a k q => oA a k (by omega) (by omega)), Tx.cg (fun a k q => oA a k (by omega) (by omega)), Sc.cg (fun a k q => oA a k (by omega) (by omega)) (congrArg Prod.fst e2)⟩, T, D, ds', ks, sa, ⟨w, wD, al, g, gk⟩, ⟨s1, by rw [e3]; exact s2, by rw [e3]; exact s3⟩, ⟨x1.cg w.2.1 e1 e3 (fun a k q1 q2 => oA a k (by omega) (by omega)), x.cg w.2.1 b.1 (congrArg Prod.snd b.2.1) (fun a k q1 q2 => oB a k (by omega) (by omega)), l.cg (fun a k q1 q2 => oB a k (by omega) (by omega)), fun k hk => ?_⟩, ⟨⟨by rw [oA 85 1 (by omega) (by omega)]; exact m1.1, by rw [oA 85 3 (by omega) (by omega)]; exact m1.2.1, fun k hk => by rw [oA 87 k (by omega) (by omega)]; exact m1.2.2.1 k hk, fun i hi => by rw [oA 88 i (by omega) (by omega), oA 89 i (by omega) (by omega), oA 90 i (by omega) (by omega)]; exact m1.2.2.2 i hi⟩, m, fun k hk => ?_⟩⟩
  · have := x4 k hk
    unfold xk at this ⊢
    cases hks : ks k with
    | none =>
      rw [hks] at this
      show h2.2.1 (79 + 2 * k) 1 = -1
      rw [oA _ _ (by omega) (by omega)]
      exact this
    | some es =>
      rw [hks] at this
      exact lgv.cg this (fun a j q1 q2 => oA a j (by omega) (by omega))
  · have := m3 k hk
    unfold mk at this ⊢
    cases hks : ks k with
    | none =>
      rw [hks] at this
      show h2.2.1 86 _ = -1
      rw [o86 _ (by omega)]
      exact this
    | some es =>
      rw [hks] at this
      exact mb_far this (fun j hj => o86 j (by omega))
section
variable {h : gz_H} {T : gz_T} {E : gz_D}
/-- a deed of the class -/
theorem x_doDeed {D : gz_D} {ds : List gz_De} (V : XV h T (rn T D ds)) (L : lgv h 25 ds) (hl : ds.length < 40) {d : gz_De} (v : vd T d) (l : lv (rn T D ds) d) : ∃ h1, fX8_doDeed 0 (nI d.1) (nI d.2.1) (nI d.2.2) h = some (pfA T (rn T D ds) d, h1) ∧ fA h h1 ∧ XV h1 T (rn T D (ds ++ [d])) ∧ lgv h1 25 (ds ++ [d]) := by
  have H := V.H
  have b := V.b
  have hi : d.2.1 < T.2.1 := v.2.1
  obtain ⟨h1, e1, l1, f1, f2, f3⟩ := x_note H L hl V.2.1 v
  have V1 : XV h1 T (rn T D ds) := ⟨H.of f1 (congrArg Prod.snd f2), V.2.1, V.2.2.1, V.2.2.2.cg V.2.1.2.1 f1 (congrArg Prod.snd f2) (fun a k q1 q2 => f3 a k (by omega) (by omega))⟩
  have H1 := V1.H
  obtain ⟨h2, e2, V2, f4⟩ := x_perform V1 v l
  have eg := V.gn d.2.1 hi
  rw [l.1] at eg
  refine ⟨h2, ?_, ⟨f4.1.trans f1, f4.2.1.trans f2, fun a k q => by rw [f4.2.2 a k (by omega), f3 a k (by omega) (by omega)]⟩, by rw [rn_add]; exact V2, l1.cg (fun a k q1 q2 => f4.2.2 a k (by omega))⟩
  unfold fX8_doDeed fX8_doDeed_0
  rw [ck_t (sh_0 H), rf_0_9 H, br_s, ck_t (sh_28 H), rf_28_1 H, br_s, ck_t (in_30 H (by omega)), nI_clamp (by omega), rf_30 H (by omega), br_s, ck_t (sgk_31 H (by omega)), eg, if_pos (by decide), rf_0_7 H, br_s, ck_t (sh_25 H), L.1, if_pos (show nI ds.length < (40 : Int32) from nI_lt hl (by decide)), e1, b2_s, ck_t (sh_0 H1), rf_0_9 H1, br_s, ck_t (sh_28 H1), e2, b2_s]
theorem x_doGone (V : XV h T E) {i : Nat} (hi : i < T.2.1) (g : (E i).2 = true) (x y : Int32) : fX8_doDeed 0 x (nI i) y h = some (-4, h) := by
  have H := V.H
  have b := V.b
  have eg := V.gn i hi
  rw [if_pos g] at eg
  unfold fX8_doDeed fX8_doDeed_0
  rw [ck_t (sh_0 H), rf_0_9 H, br_s, ck_t (sh_28 H), rf_28_1 H, br_s, ck_t (in_30 H (by omega)), nI_clamp (by omega), rf_30 H (by omega), br_s, ck_t (sgk_31 H (by omega)), eg, if_neg (by decide)]
theorem x_doFull {ds : List gz_De} (V : XV h T E) (L : lgv h 25 ds) (hl : ds.length = 40) {i : Nat} (hi : i < T.2.1) (g : (E i).2 = false) (x y : Int32) : fX8_doDeed 0 x (nI i) y h = some (-2, h) := by
  have H := V.H
  have b := V.b
  have eg := V.gn i hi
  rw [g] at eg
  unfold fX8_doDeed fX8_doDeed_0
  rw [ck_t (sh_0 H), rf_0_9 H, br_s, ck_t (sh_28 H), rf_28_1 H, br_s, ck_t (in_30 H (by omega)), nI_clamp (by omega), rf_30 H (by omega), br_s, ck_t (sgk_31 H (by omega)), eg, if_pos (by decide), rf_0_7 H, br_s, ck_t (sh_25 H), L.1, hl, if_neg (by decide)]
/-- may it be done? -/
theorem m_no {ds : List gz_De} (V : MV h T E) (e0 : h.2.1 86 0 = nI ds.length) (hl : ds.length ≤ 40) {i j : Nat} (hi : i < T.2.1) (hj : j < T.2.1) : fX9_no 85 (nI i) (nI j) h = some (if (E i).2 = true ∨ (E j).2 = true then -4 else if ds.length = 40 then -2 else 0, h) := by
  have H := V.H
  unfold fX9_no fX9_no_0 fX9_no_16
  rw [ck_t (sh_85 H), m_isGone V hi, b2_s]
  by_cases g1 : (E i).2 = true
  · rw [if_pos g1, if_neg (by decide), if_pos (Or.inl g1)]
  · rw [if_neg g1, if_pos (by decide), ck_t (sh_85 H), m_isGone V hj, b2_s]
    by_cases g2 : (E j).2 = true
    · rw [if_pos g2, if_neg (by decide), if_pos (Or.inr g2)]
    · rw [if_neg g2, if_pos (by decide), ck_t (sh_85 H), rf_85_0 H, br_s, show (0 : Int32) = nI 0 from rfl, ck_t (in_86 H (by decide)), nI_clamp (by decide), e0, if_neg (show ¬ ((E i).2 = true ∨ (E j).2 = true) from fun z => z.elim g1 g2)]
      by_cases c : ds.length = 40
      · rw [if_pos (show nI ds.length = (40 : Int32) from by rw [c]; rfl), if_pos c]
      · rw [if_neg (show ¬ nI ds.length = (40 : Int32) from fun z => c ((nI_eq (by omega) (by decide)).mp z)), if_neg c]
end
