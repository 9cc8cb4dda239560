/-! PURE: what a goose tells at a place -/
def isOfB (a b : Nat) : Bool := decide (a = b ∨ (a = 5 ∧ b = 1) ∨ (a = 4 ∧ b = 3))
def cal (T : gz_T) (kd p f : Nat) : Bool := decide ((T.2.2.1 f = p ∨ (kd = 2 ∧ T.2.2.1 f = (p + 1) % 6)) ∧ ¬ (kd = 4 ∧ f % 2 = 0))
def tf (c : Nat → Bool) (g : Bool) (l : Nat → Nat) : Nat → Nat
  | 0 => 0
  | k + 1 => if c (l k) = true then (if g = true then 2 ^ l k else tf c g l k ||| 2 ^ l k) else tf c g l k
def gan (kd : Nat) : Bool := decide (kd = 1 ∨ kd = 5)
def ta (T : gz_T) (kd mo : Nat) (l : List Nat) (p : Nat) : Nat := if ((kd = 3 ∨ kd = 4) ∧ mo ≤ l.length) ∨ (kd = 5 ∧ p = 0) then 0 else tf (cal T kd p) (gan kd) (fun k => l.getD k 0) l.length
theorem tf_lt {c : Nat → Bool} {g : Bool} {l : Nat → Nat} {b : Nat} : ∀ {n : Nat}, (∀ k, k < n → l k < b) → tf c g l n < 2 ^ b := by
  intro n
  induction n with
  | zero => intro _; exact Nat.two_pow_pos b
  | succ n ih =>
    intro h
    have h1 := ih fun k hk => h k (by omega)
    have h2 : 2 ^ l n < 2 ^ b := Nat.pow_lt_pow_right (by decide) (h n (by omega))
    rw [tf]
    by_cases c1 : c (l n) = true
    · rw [if_pos c1]
      by_cases c2 : g = true
      · rw [if_pos c2]; exact h2
      · rw [if_neg c2]; exact Nat.or_lt_two_pow h1 h2
    · rw [if_neg c1]; exact h1
theorem ta_lt {T : gz_T} {kd mo p : Nat} {l : List Nat} {b : Nat} (hb : ∀ f ∈ l, f < b) : ta T kd mo l p < 2 ^ b := by
  unfold ta
  by_cases c : ((kd = 3 ∨ kd = 4) ∧ mo ≤ l.length) ∨ (kd = 5 ∧ p = 0)
  · rw [if_pos c]; exact Nat.two_pow_pos b
  · rw [if_neg c]; exact tf_lt fun k hk => hb _ (ld_mem hk)
theorem ta_nil {T : gz_T} {kd mo p : Nat} : ta T kd mo [] p = 0 := by
  unfold ta
  by_cases c : ((kd = 3 ∨ kd = 4) ∧ mo ≤ ([] : List Nat).length) ∨ (kd = 5 ∧ p = 0)
  · rw [if_pos c]
  · rw [if_neg c]; rfl
theorem cal_no {T : gz_T} {kd p f : Nat} (q : kd = 4 ∧ f % 2 = 0) : cal T kd p f = false := decide_eq_false (fun z => z.2 q)
theorem cal_yes {T : gz_T} {kd p f : Nat} (q : ¬ (kd = 4 ∧ f % 2 = 0)) : cal T kd p f = decide (T.2.2.1 f = p ∨ (kd = 2 ∧ T.2.2.1 f = (p + 1) % 6)) := by
  unfold cal
  by_cases c : T.2.2.1 f = p ∨ (kd = 2 ∧ T.2.2.1 f = (p + 1) % 6)
  · rw [decide_eq_true c, decide_eq_true ⟨c, q⟩]
  · rw [decide_eq_false c, decide_eq_false (fun z => c z.1)]
theorem x_isOf {h : gz_H} {a b : Nat} (ha : a < 2 ^ 31) (hb : b < 2 ^ 31) : fX8_isOf (nI a) (nI b) h = some (if isOfB a b = true then nI 1 else nI 0, h) := by
  unfold fX8_isOf fX8_isOf_0 fX8_isOf_15 fX8_isOf_25 isOfB
  simp (disch := first | assumption | omega | trivial | rfl) only [li_0, li_1, li_3, li_4, li_5, nI_eq]
  by_cases c1 : a = b
  · simp [c1]
  · by_cases c2 : a = 5
    · by_cases c3 : b = 1
      · simp [c2, c3]
      · have : ¬ (5 : Nat) = b := by omega
        simp [c2, c3, this]
    · by_cases c4 : a = 4
      · by_cases c5 : b = 3
        · simp [c4, c5]
        · have : ¬ (4 : Nat) = b := by omega
          simp [c4, c5, this]
      · simp [c1, c2, c4]
theorem m_isHen {h : gz_H} {a : Nat} (ha : a < 2 ^ 31) : fX9_isHen (nI a) h = some (if a = 3 ∨ a = 4 then nI 1 else nI 0, h) := by
  unfold fX9_isHen fX9_isHen_0 fX9_isHen_10
  simp (disch := first | assumption | omega | trivial | rfl) only [li_0, li_1, li_3, li_4, li_5, nI_eq]
  by_cases c1 : a = 3
  · simp [c1]
  · by_cases c2 : a = 4 <;> simp [c1, c2]
theorem m_isGander {h : gz_H} {a : Nat} (ha : a < 2 ^ 31) : fX9_isGander (nI a) h = some (if gan a = true then nI 1 else nI 0, h) := by
  unfold fX9_isGander fX9_isGander_0 fX9_isGander_10 gan
  simp (disch := first | assumption | omega | trivial | rfl) only [li_0, li_1, li_3, li_4, li_5, nI_eq]
  by_cases c1 : a = 1
  · simp [c1]
  · by_cases c2 : a = 5 <;> simp [c1, c2]
theorem x_called {h : gz_H} {kd p q : Nat} (hk : kd ≤ 5) (hp : p < 6) (hq : q < 6) : fX2_isCalledBy (nI kd) (nI p) (nI q) h = some (if q = p ∨ (kd = 2 ∧ q = (p + 1) % 6) then nI 1 else nI 0, h) := by
  unfold fX2_isCalledBy fX2_isCalledBy_0 fX2_isCalledBy_20
  have := Nat.mod_lt (p + 1) (show 0 < 6 by decide)
  simp (disch := first | assumption | omega | trivial | rfl) only [li_0, li_1, li_2, li_6, nI_add, pk_rem, nI_eq]
  by_cases c1 : q = p
  · simp [c1]
  · by_cases c2 : kd = 2
    · by_cases c3 : q = (p + 1) % 6
      · simp only [if_neg c1, if_pos c2, if_pos c3]
        rw [if_pos (Or.inr ⟨c2, c3⟩)]
      · simp only [if_neg c1, if_pos c2, if_neg c3]
        rw [if_neg (by rintro (q | q); exact c1 q; exact c3 q.2)]
    · simp only [if_neg c1, if_neg c2]
      rw [if_neg (by rintro (q | q); exact c1 q; exact c2 q.1)]
section
variable {h : gz_H} {T : gz_T} {E : gz_D}
theorem isOf_gan {kd : Nat} : isOfB kd 1 = true ↔ gan kd = true := by unfold isOfB gan; simp
theorem isOf_hen {kd : Nat} : isOfB kd 3 = true ↔ (kd = 3 ∨ kd = 4) := by unfold isOfB; rw [decide_eq_true_iff]; omega
theorem x_ta39 (V : XV h T E) {g : Nat} {l : List Nat} (G : gv h g l) (hb : ∀ f ∈ l, f < T.1) {kd p : Nat} (hk : kd ≤ 5) (hp : p < 6) : ∀ (k m s : Nat), k ≤ l.length → k < m → (gan kd = true → s = 0) → fX2_toldAs_39 m g (nI kd) (nI p) 29 (nI s) (nI k - nI 1) h = some (nI (s ||| tf (cal T kd p) (gan kd) (fun k => l.getD k 0) k), h) := by
  have H := V.H
  have b := V.b
  obtain ⟨v1, v2, v3, v4, v5, v6⟩ := G
  intro k
  induction k with
  | zero =>
    intro m s h1 h2 h3
    obtain ⟨m, rfl⟩ : ∃ q, m = q + 1 := ⟨m - 1, by omega⟩
    rw [fX2_toldAs_39, if_pos (by decide), tf, Nat.or_zero]
  | succ k ih =>
    intro m s h1 h2 h3
    obtain ⟨m, rfl⟩ : ∃ q, m = q + 1 := ⟨m - 1, by omega⟩
    have hf := hb _ (ld_mem (l := l) (k := k) (by omega))
    have hpl := V.2.1.2.2.2.1 _ hf
    have h86 : gz_inb h (g + 1) 10 (nI k) = true := inb_nI v2 (by omega) (by decide)
    have c1 := x_called (h := h) hk hp (show T.2.2.1 (l.getD k 0) < 6 by omega)
    have c2 := x_isOf (h := h) (a := kd) (b := 1) (by omega) (by omega)
    have ih2 := fun s => ih m s (by omega) (by omega)
    rw [fX2_toldAs_39, n_prd, tf]
    unfold fX2_toldAs_68 fX2_toldAs_103
    simp (disch := first | assumption | omega | trivial | rfl) only [v3, v6, sh_t v1, h86, V.pl, ck_1, br_s, b2_s, bi_s, lt_d, bo_0, bo_1, lt_d, uI_1, uI_R, uI_L, uF_1, uF_R, uF_L, uL_1, uL_I, uL_R, uR_1, uR_I, uR_L, inb_uI, inb_uF, inb_uL, inb_uR, len_uI, len_uF, sh_uI, sh_uF, sh_uL, sh_uR, rf_0_0, rf_0_1, rf_0_2, rf_0_3, rf_0_4, rf_0_5, rf_0_6, rf_0_7, rf_0_8, rf_0_9, rf_0_12, rf_0_13, rf_0_14, rf_0_15, rf_0_16, rf_0_17, rf_1_1, rf_1_2, rf_10_1, rf_10_2, rf_18_0, rf_21_0, rf_23_0, rf_25_0, rf_79_0, rf_81_0, rf_83_0, rf_28_0, rf_28_1, rf_31_0, rf_33_0, rf_35_0, rf_37_0, rf_39_0, rf_41_0, rf_43_0, rf_43_1, rf_46_0, rf_48_0, rf_50_0, rf_52_0, rf_54_0, rf_56_0, rf_58_0, rf_58_1, rf_61_0, rf_63_0, rf_65_0, rf_67_0, rf_69_0, rf_71_0, rf_85_0, rf_85_2, rf_85_4, rf_85_5, rf_85_6, rf_85_7, rf_85_8, rf_85_9, rf_85_10, rf_85_15, rf_85_19, rf_85_21, rf_85_22, rf_85_23, rf_85_26, rf_85_27, rf_85_28, rf_2, rf_11, rf_30, rf_45, rf_60, rf_27, sgr_31, sgr_46, sgr_61, slr_79, in_2, in_9, ln_9, in_11, in_16, ln_16, in_19, ln_19, in_22, ln_22, in_24, ln_24, in_26, ln_26, in_27, in_29, ln_29, in_30, in_44, ln_44, in_45, in_59, ln_59, in_60, in_73, ln_73, in_74, ln_74, in_75, ln_75, in_76, ln_76, in_77, ln_77, in_78, ln_78, in_80, ln_80, in_82, ln_82, in_84, ln_84, in_86, ln_86, in_87, ln_87, in_88, ln_88, in_89, ln_89, in_90, ln_90, in_91, ln_91, in_92, ln_92, in_93, ln_93, in_94, ln_94, in_95, ln_95, in_96, ln_96, in_97, ln_97, in_98, ln_98, in_99, ln_99, in_100, ln_100, in_101, ln_101, in_102, ln_102, sh_0, sh_1, sh_10, sh_17, sh_18, sh_20, sh_21, sh_23, sh_25, sh_28, sh_43, sh_58, sh_79, sh_81, sh_83, sh_85, sgk_31, sgi_31, sgk_46, sgi_46, sgk_61, sgi_61, slk_79, sli_79, ini_rw, ini_tx, li_0, li_1, li_2, li_3, li_4, li_5, li_6, li_7, li_8, li_9, li_10, li_11, li_12, li_13, li_14, li_15, li_16, li_31, li_32, li_36, li_40, li_48, li_53, li_55, li_56, li_57, li_58, li_60, li_63, li_64, li_80, li_97, li_98, li_99, li_100, li_103, li_104, li_108, li_115, li_116, li_118, li_200, li_256, li_1000, li_2256, not_true_eq_false, not_false_eq_true, Bool.false_eq_true, if_true, if_false, Nat.or_zero, Nat.zero_or, pk_rem, nI_m31, nI_sl, nI_bt, nI_or, nI_sub', nI_n9, nI_9n, nI_n1, bo_n0, bo_n1, bo_if, nI_if, nI_if0, nI_if1, if_10, if_11, t_bits, t_bc, t_has, nI_clamp, nI_add, pk_mul, pk_sub, nI_eq, nI_leI, nI_ltI, if_pos, if_neg, uI_at, uI_to, uI_ne, uF_at, uF_ne, n_dec, c1, c2]
    by_cases q1 : kd = 4 ∧ l.getD k 0 % 2 = 0
    · have hc : cal T kd p (l.getD k 0) = false := cal_no q1
      rw [if_pos q1.1, if_pos q1.2, hc, if_neg (by decide)]
      exact ih2 s h3
    · have hc : cal T kd p (l.getD k 0) = decide (T.2.2.1 (l.getD k 0) = p ∨ (kd = 2 ∧ T.2.2.1 (l.getD k 0) = (p + 1) % 6)) := cal_yes q1
      rw [hc]
      have main : (if ¬ (T.2.2.1 (l.getD k 0) = p ∨ kd = 2 ∧ T.2.2.1 (l.getD k 0) = (p + 1) % 6) then fX2_toldAs_39 m g (nI kd) (nI p) 29 (nI s) (nI k - nI 1) h else if ¬ isOfB kd 1 = true then fX2_toldAs_39 m g (nI kd) (nI p) 29 (nI (s ||| 2 ^ l.getD k 0)) (nI k - nI 1) h else some (nI (s ||| 2 ^ l.getD k 0), h)) = some (nI (s ||| if decide (T.2.2.1 (l.getD k 0) = p ∨ (kd = 2 ∧ T.2.2.1 (l.getD k 0) = (p + 1) % 6)) = true then if gan kd = true then 2 ^ l.getD k 0 else tf (cal T kd p) (gan kd) (fun k => l.getD k 0) k ||| 2 ^ l.getD k 0 else tf (cal T kd p) (gan kd) (fun k => l.getD k 0) k), h) := by
        by_cases q2 : T.2.2.1 (l.getD k 0) = p ∨ kd = 2 ∧ T.2.2.1 (l.getD k 0) = (p + 1) % 6
        · rw [if_neg (fun z => z q2), if_pos (decide_eq_true q2)]
          by_cases q3 : gan kd = true
          · rw [if_neg (fun z => z (isOf_gan.mpr q3)), if_pos q3]
          · rw [if_pos (fun z => q3 (isOf_gan.mp z)), if_neg q3, ih2 _ (fun z => absurd z q3)]
            rw [Nat.or_assoc, Nat.or_comm (2 ^ _)]
        · rw [if_pos q2, if_neg (by simpa using q2)]
          exact ih2 s h3
      by_cases q4 : kd = 4
      · have q5 : ¬ l.getD k 0 % 2 = 0 := fun z => q1 ⟨q4, z⟩
        simp only [if_pos q4, if_neg q5]
        exact main
      · simp only [if_neg q4]
        exact main
theorem x_toldAs (V : XV h T E) {g : Nat} {l : List Nat} (G : gv h g l) (hb : ∀ f ∈ l, f < T.1) {kd mo p : Nat} (hk : kd ≤ 5) (hp : p < 6) (hm : h.2.1 g 3 = nI mo) (hmo : mo ≤ 8) : fX2_toldAs g (nI kd) (nI p) 29 h = some (nI (ta T kd mo l p), h) := by
  have H := V.H
  have b := V.b
  have c2 := x_isOf (h := h) (a := kd) (b := 3) (by omega) (by omega)
  have c3 := x_isFilled G hm hmo
  have c4 := x_ta39 V G hb hk hp l.length gz_fu 0 (Nat.le_refl _) (by have := G.2.2.2.1; show l.length < 100000; omega) (fun _ => rfl)
  rw [Nat.zero_or] at c4
  have c5 := sh_t G.1
  have c6 := G.2.2.2.2.1
  unfold fX2_toldAs fX2_toldAs_0 fX2_toldAs_17 fX2_toldAs_28 ta
  simp (disch := first | assumption | omega | trivial | rfl) only [ck_1, br_s, b2_s, bi_s, lt_d, bo_0, bo_1, lt_d, uI_1, uI_R, uI_L, uF_1, uF_R, uF_L, uL_1, uL_I, uL_R, uR_1, uR_I, uR_L, inb_uI, inb_uF, inb_uL, inb_uR, len_uI, len_uF, sh_uI, sh_uF, sh_uL, sh_uR, rf_0_0, rf_0_1, rf_0_2, rf_0_3, rf_0_4, rf_0_5, rf_0_6, rf_0_7, rf_0_8, rf_0_9, rf_0_12, rf_0_13, rf_0_14, rf_0_15, rf_0_16, rf_0_17, rf_1_1, rf_1_2, rf_10_1, rf_10_2, rf_18_0, rf_21_0, rf_23_0, rf_25_0, rf_79_0, rf_81_0, rf_83_0, rf_28_0, rf_28_1, rf_31_0, rf_33_0, rf_35_0, rf_37_0, rf_39_0, rf_41_0, rf_43_0, rf_43_1, rf_46_0, rf_48_0, rf_50_0, rf_52_0, rf_54_0, rf_56_0, rf_58_0, rf_58_1, rf_61_0, rf_63_0, rf_65_0, rf_67_0, rf_69_0, rf_71_0, rf_85_0, rf_85_2, rf_85_4, rf_85_5, rf_85_6, rf_85_7, rf_85_8, rf_85_9, rf_85_10, rf_85_15, rf_85_19, rf_85_21, rf_85_22, rf_85_23, rf_85_26, rf_85_27, rf_85_28, rf_2, rf_11, rf_30, rf_45, rf_60, rf_27, sgr_31, sgr_46, sgr_61, slr_79, in_2, in_9, ln_9, in_11, in_16, ln_16, in_19, ln_19, in_22, ln_22, in_24, ln_24, in_26, ln_26, in_27, in_29, ln_29, in_30, in_44, ln_44, in_45, in_59, ln_59, in_60, in_73, ln_73, in_74, ln_74, in_75, ln_75, in_76, ln_76, in_77, ln_77, in_78, ln_78, in_80, ln_80, in_82, ln_82, in_84, ln_84, in_86, ln_86, in_87, ln_87, in_88, ln_88, in_89, ln_89, in_90, ln_90, in_91, ln_91, in_92, ln_92, in_93, ln_93, in_94, ln_94, in_95, ln_95, in_96, ln_96, in_97, ln_97, in_98, ln_98, in_99, ln_99, in_100, ln_100, in_101, ln_101, in_102, ln_102, sh_0, sh_1, sh_10, sh_17, sh_18, sh_20, sh_21, sh_23, sh_25, sh_28, sh_43, sh_58, sh_79, sh_81, sh_83, sh_85, sgk_31, sgi_31, sgk_46, sgi_46, sgk_61, sgi_61, slk_79, sli_79, ini_rw, ini_tx, li_0, li_1, li_2, li_3, li_4, li_5, li_6, li_7, li_8, li_9, li_10, li_11, li_12, li_13, li_14, li_15, li_16, li_31, li_32, li_36, li_40, li_48, li_53, li_55, li_56, li_57, li_58, li_60, li_63, li_64, li_80, li_97, li_98, li_99, li_100, li_103, li_104, li_108, li_115, li_116, li_118, li_200, li_256, li_1000, li_2256, not_true_eq_false, not_false_eq_true, Bool.false_eq_true, if_true, if_false, Nat.or_zero, Nat.zero_or, pk_rem, nI_m31, nI_sl, nI_bt, nI_or, nI_sub', nI_n9, nI_9n, nI_n1, bo_n0, bo_n1, bo_if, nI_if, nI_if0, nI_if1, if_10, if_11, t_bits, t_bc, t_has, nI_clamp, nI_add, pk_mul, pk_sub, nI_eq, nI_leI, nI_ltI, if_pos, if_neg, uI_at, uI_to, uI_ne, uF_at, uF_ne, c2, c3, c5, c6, c4]
  by_cases q1 : (kd = 3 ∨ kd = 4) ∧ mo ≤ l.length
  · rw [if_neg (fun z => z (isOf_hen.mpr q1.1)), if_neg (fun z => z q1.2), if_pos (Or.inl q1)]
  · by_cases q2 : kd = 5 ∧ p = 0
    · have q3 : ¬ isOfB kd 3 = true := fun z => by have := isOf_hen.mp z; omega
      rw [if_pos q3, if_pos q2.1, if_pos q2.2, if_pos (Or.inr q2)]
    · rw [if_neg (show ¬ (((kd = 3 ∨ kd = 4) ∧ mo ≤ l.length) ∨ (kd = 5 ∧ p = 0)) from fun z => z.elim q1 q2)]
      have r : (if kd = 5 then if p = 0 then some (nI 0, h) else some (nI (tf (cal T kd p) (gan kd) (fun k => l.getD k 0) l.length), h) else some (nI (tf (cal T kd p) (gan kd) (fun k => l.getD k 0) l.length), h)) = some (nI (tf (cal T kd p) (gan kd) (fun k => l.getD k 0) l.length), h) := by
        by_cases q4 : kd = 5
        · have q5 : ¬ p = 0 := fun z => q2 ⟨q4, z⟩
          rw [if_pos q4, if_neg q5]
        · rw [if_neg q4]
      rw [r]
      by_cases q6 : isOfB kd 3 = true
      · have q7 : ¬ mo ≤ l.length := fun z => q1 ⟨isOf_hen.mp q6, z⟩
        rw [if_neg (fun z => z q6), if_pos q7]
      · rw [if_pos q6]
end
