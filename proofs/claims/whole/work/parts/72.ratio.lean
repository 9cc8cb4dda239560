/-! PURE: ratios; share agrees -/
section
variable {h : gz_H}
theorem cmp_z {n : Nat} (hn : n < 2 ^ 63) : lg_cmp (lN n) (0 : Int64) = 0 ↔ n = 0 := by
  rw [cmp_eq, show (0 : Int64) = lN 0 from rfl, pk_lEQ hn (by omega)]
theorem nzL_t {n : Nat} (h0 : 0 < n) (hn : n < 2 ^ 63) : gz_nzL (lN n) = true := by
  unfold gz_nzL
  simp only [Bool.not_eq_true', decide_eq_false_iff_not, bne_iff_ne, ne_eq, decide_eq_true_eq]
  intro z
  have := (pk_lEQ (a := n) (b := 0) (by omega) (by omega)).mp z
  omega
theorem half_mod {b r : Nat} (h0 : 0 < r) (h1 : r ≤ b) : 2 * (b % r) < b := by
  have e := Nat.div_add_mod b r
  have m := Nat.mod_lt b h0
  have q : 1 ≤ b / r := (Nat.one_le_div_iff h0).mpr h1
  have : r * 1 ≤ r * (b / r) := Nat.mul_le_mul_left r q
  omega
theorem gcd_mod {a b : Nat} : Nat.gcd b (a % b) = Nat.gcd a b := by rw [Nat.gcd_comm a b, Nat.gcd_rec b a, Nat.gcd_comm]
theorem x_gcd : ∀ (j a b c m : Nat), a < 2 ^ 63 → b < 2 ^ 63 → b < 2 ^ j → c + 2 * j + 2 ≤ 200 → 2 * j + 2 < m → fX4_greatestDivisor_9 m (lN a) (lN b) (nI c) h = some (lN (Nat.gcd a b), h) := by
  intro j
  induction j with
  | zero =>
    intro a b c m ha hb hj hc hm
    obtain ⟨m, rfl⟩ : ∃ k, m = k + 1 := ⟨m - 1, by omega⟩
    have : b = 0 := by omega
    subst this
    rw [fX4_greatestDivisor_9, if_neg (show ¬ (200 : Int32) ≤ nI c from nI_ge (b := 200) (by omega) (by decide)), if_pos ((cmp_z (by omega)).mpr rfl), Nat.gcd_zero_right]
  | succ j ih =>
    intro a b c m ha hb hj hc hm
    obtain ⟨m, rfl⟩ : ∃ k, m = k + 1 := ⟨m - 1, by omega⟩
    rw [fX4_greatestDivisor_9, if_neg (show ¬ (200 : Int32) ≤ nI c from nI_ge (b := 200) (by omega) (by decide))]
    by_cases z : b = 0
    · rw [if_pos ((cmp_z hb).mpr z), z, Nat.gcd_zero_right]
    · have hm1 := Nat.mod_lt a (show 0 < b by omega)
      rw [if_neg (fun q => z ((cmp_z hb).mp q)), ck_t (nzL_t (by omega) hb), pk_lRem ha (by omega) hb, nI_1]
      obtain ⟨m, rfl⟩ : ∃ k, m = k + 1 := ⟨m - 1, by omega⟩
      rw [fX4_greatestDivisor_9, if_neg (show ¬ (200 : Int32) ≤ nI (c + 1) from nI_ge (b := 200) (by omega) (by decide))]
      by_cases z2 : a % b = 0
      · rw [if_pos ((cmp_z (by omega)).mpr z2), ← gcd_mod, z2, Nat.gcd_zero_right]
      · have hh := half_mod (b := b) (r := a % b) (by omega) (by omega)
        have hp : 2 ^ (j + 1) = 2 * 2 ^ j := by rw [Nat.pow_succ, Nat.mul_comm]
        rw [if_neg (fun q => z2 ((cmp_z (by omega)).mp q)), ck_t (nzL_t (by omega) (by omega)), pk_lRem hb (by omega) (by omega), nI_1, ih _ _ _ _ (by omega) (by omega) (by omega) (by omega) (by omega), gcd_mod, gcd_mod]
theorem m_gcd (H : gz_La h) {A B : Int64} : ∀ (j a b m : Nat), a < 2 ^ 63 → b < 2 ^ 63 → 0 < Nat.gcd a b → b < 2 ^ j → 2 * j + 2 < m → fX9_tellParts_6 m 85 A B (lN a) (lN b) h = some (1, uL (uL h 85 12 (A / lN (Nat.gcd a b))) 85 13 (B / lN (Nat.gcd a b))) := by
  intro j
  have hend : ∀ (m a b : Nat), a < 2 ^ 63 → 0 < Nat.gcd a b → b = 0 → fX9_tellParts_6 (m + 1) 85 A B (lN a) (lN b) h = some (1, uL (uL h 85 12 (A / lN (Nat.gcd a b))) 85 13 (B / lN (Nat.gcd a b))) := by
    intro m a b ha hg e
    subst e
    rw [Nat.gcd_zero_right] at hg ⊢
    rw [fX9_tellParts_6, if_pos ((cmp_z (by omega)).mpr rfl), ck_t (nzL_t hg ha), ck_t (sh_85 H), lt_d, ck_t (sh_85 (show gz_La (uL h 85 12 (A / lN a)) from H.of rfl rfl)), lt_d]
  induction j with
  | zero =>
    intro a b m ha hb hg hj hm
    obtain ⟨m, rfl⟩ : ∃ k, m = k + 1 := ⟨m - 1, by omega⟩
    exact hend m a b ha hg (by omega)
  | succ j ih =>
    intro a b m ha hb hg hj hm
    obtain ⟨m, rfl⟩ : ∃ k, m = k + 1 := ⟨m - 1, by omega⟩
    by_cases z : b = 0
    · exact hend m a b ha hg z
    · have hm1 := Nat.mod_lt a (show 0 < b by omega)
      rw [fX9_tellParts_6, if_neg (fun q => z ((cmp_z hb).mp q)), ck_t (nzL_t (by omega) hb), pk_lRem ha (by omega) hb]
      obtain ⟨m, rfl⟩ : ∃ k, m = k + 1 := ⟨m - 1, by omega⟩
      rw [← gcd_mod] at hg ⊢
      by_cases z2 : a % b = 0
      · exact hend m _ _ hb hg z2
      · have hh := half_mod (b := b) (r := a % b) (by omega) (by omega)
        have hp : 2 ^ (j + 1) = 2 * 2 ^ j := by rw [Nat.pow_succ, Nat.mul_comm]
        rw [fX9_tellParts_6, if_neg (fun q => z2 ((cmp_z (by omega)).mp q)), ck_t (nzL_t (by omega) (by omega)), pk_lRem hb (by omega) (by omega)]
        rw [← gcd_mod] at hg ⊢
        exact ih _ _ _ (by omega) (by omega) hg (by omega) (by omega)
theorem x_ratio (H : gz_La h) {a b : Nat} (ha : a < 2 ^ 63) (h0 : 0 < b) (hb : b < 2 ^ 40) : fX4_become 20 (lN a) (lN b) h = some ((), uL (uL h 20 0 (lN a / lN (Nat.gcd a b))) 20 1 (lN b / lN (Nat.gcd a b))) := by
  have hg : 0 < Nat.gcd a b := Nat.gcd_pos_of_pos_right a h0
  have hg2 : Nat.gcd a b ≤ b := Nat.le_of_dvd h0 (Nat.gcd_dvd_right a b)
  unfold fX4_become fX4_become_0 fX4_greatestDivisor fX4_greatestDivisor_0
  have e0 : fX4_greatestDivisor_9 gz_fu (lN a) (lN b) (0 : Int32) h = _ := x_gcd 40 a b 0 gz_fu ha (by omega) hb (by omega) (by show 2 * 40 + 2 < 100000; omega)
  rw [e0, b2_s, if_neg (fun q => absurd ((cmp_z (by omega)).mp q) (by omega)), ck_t (nzL_t hg (by omega)), ck_t (sh_20 H), lt_d, ck_t (sh_20 (show gz_La (uL h 20 0 (lN a / lN (Nat.gcd a b))) from H.of rfl rfl)), lt_d]
theorem m_ratio (H : gz_La h) {a b : Nat} (ha : a < 2 ^ 63) (h0 : 0 < b) (hb : b < 2 ^ 40) : fX9_tellParts 85 (lN a) (lN b) h = some (1, uL (uL h 85 12 (lN a / lN (Nat.gcd a b))) 85 13 (lN b / lN (Nat.gcd a b))) := by
  unfold fX9_tellParts fX9_tellParts_0
  exact m_gcd H 40 a b gz_fu ha (by omega) (Nat.gcd_pos_of_pos_right a h0) hb (by show 2 * 40 + 2 < 100000; omega)
/-- a ratio is told -/
theorem r_end (I : gz_Iv h) {A B : Int64} {v : Int32} {X M : gz_H → Option (Int32 × gz_H)} {h1 h2 : gz_H} (x : X h = some (v, uL (uL h1 20 0 A) 20 1 B)) (s1 : sc h h1) (m : M (uL (uL h1 20 0 A) 20 1 B) = some (v, uL (uL h2 85 12 A) 85 13 B)) (s2 : sc (uL (uL h1 20 0 A) 20 1 B) h2) : gz_ag X M h gz_Iv := by
  refine ⟨v, _, _, x, s1.1.trans I.1.1.1, m, ?_⟩
  have o : ∀ a k, ¬ scr a k → (uL (uL h2 85 12 A) 85 13 B).2.1 a k = h.2.1 a k := fun a k q => by
    rw [uL_I, uL_I, s2.2.2 a k q, uL_I, uL_I, s1.2.2 a k q]
  have r : (uL (uL h2 85 12 A) 85 13 B).2.2.2 = h.2.2.2 := by
    rw [uL_R, uL_R, congrArg Prod.snd s2.2.1, uL_R, uL_R, congrArg Prod.snd s1.2.1]
  unfold scr at o
  obtain ⟨H, Fx, Rw, Tx, Sc⟩ := I.1
  have S : gz_St h (uL (uL h2 85 12 A) 85 13 B) := by
    refine ⟨⟨H.of (s2.1.trans s1.1) r, Fx.cg (fun a k q => o a k (by omega)), Rw.cg (fun a k q => o a k (by omega)), Tx.cg (fun a k q => o a k (by omega)), ?_⟩, r, fun a k q => ?_⟩
    · obtain ⟨c1, c2, c3, c4, c5⟩ := Sc
      refine ⟨by rw [o 0 18 (by omega), o 85 11 (by omega)]; exact c1, by rw [o 18 1 (by omega), o 85 14 (by omega)]; exact c2, fun f hf => by rw [o 19 f (by omega), o 95 f (by omega)]; exact c3 f hf, ?_, ?_⟩
      · rw [uL_LL, uL_LL, uL_LL, uL_LL, congrArg Prod.fst s2.2.1, uL_LL, uL_LL]
        simp
      · rw [uL_LL, uL_LL, uL_LL, uL_LL, congrArg Prod.fst s2.2.1, uL_LL, uL_LL]
        simp
    · unfold gz_ff at q
      exact o a k (by omega)
  exact S.iv I
theorem kp.uL {h : gz_H} {a k : Nat} {v : Int64} : kp h (uL h a k v) := ⟨rfl, rfl, fun _ _ _ => rfl⟩
end
section
variable {h : gz_H} {T : gz_T} {E : gz_D}
def tlN (T : gz_T) (E : gz_D) (f : Nat) : Nat := cnt (fun j => (tb T E j).testBit f) T.2.1
def shS (T : gz_T) (E : gz_D) (i : Nat) (k : Nat) : Nat := fs (fun f => if (tb T E i).testBit f = true then 60 / tlN T E f else 0) k
theorem shS_le (k : Nat) {i : Nat} : shS T E i k ≤ k * 60 := fs_le fun f _ => by
  by_cases c : (tb T E i).testBit f = true
  · rw [if_pos c]; exact Nat.div_le_self 60 _
  · rw [if_neg c]; omega
theorem cnt_pos {q : Nat → Bool} {i : Nat} : ∀ {n : Nat}, i < n → q i = true → 0 < cnt q n := by
  intro n
  induction n with
  | zero => intro h; omega
  | succ n ih =>
    intro hi hq
    have e : cnt q (n + 1) = cnt q n + (if q n = true then 1 else 0) := rfl
    by_cases c : i = n
    · subst c
      rw [e, if_pos hq]; omega
    · have := ih (by omega) hq
      omega
theorem nzI_t {n : Nat} (h0 : 0 < n) (hn : n < 2 ^ 31) : gz_nzI (nI n) = true := by
  unfold gz_nzI
  exact decide_eq_true (fun z => by have := (nI_z hn).mp z; omega)
theorem x_shareL (V : XV h T E) (g1 : ∀ i, i < 6 → h.2.1 73 i = nI (if i < T.2.1 then tb T E i else 0)) {i : Nat} (hi : i < T.2.1) : fX8_share_21 gz_fu 0 (nI i) (0 : Int32) (0 : Int32) h = some (1, uL (uL h 20 0 (lN (shS T E i T.1) / lN (Nat.gcd (shS T E i T.1) 60))) 20 1 (lN 60 / lN (Nat.gcd (shS T E i T.1) 60))) := by
  have H := V.H
  have b := V.b
  have hfu : T.1 < 0 + gz_fu := by show T.1 < 0 + 100000; omega
  generalize gz_fu = fu at hfu ⊢
  refine lp (fun m f (y : Int32) => fX8_share_21 m 0 (nI i) y (nI f) h) (fun f => nI (shS T E i f)) T.1 _ ?_ ?_ fu 0 (by omega) hfu
  · intro m
    have le := shS_le (T := T) (E := E) (i := i) T.1
    rw [fX8_share_21, ck_t (sh_0 H), rf_0_9 H, br_s, ck_t (sh_28 H), V.f, if_pos (nI_le (Nat.le_refl _) (by omega)), rf_0_4 H, br_s, ck_t (sh_20 H), i_l64 (by omega), show (60 : Int64) = lN 60 from rfl, x_ratio H (by omega) (by omega) (by omega), b2_s]
  · intro m f hf
    have le := shS_le (T := T) (E := E) (i := i) f
    have eg : ∀ j, j < 6 → (if j < T.2.1 then tb T E j else 0) < 256 := fun j hj => by
      by_cases c : j < T.2.1
      · rw [if_pos c]; exact tb_lt8 V.2.1 V.2.2.1 c
      · rw [if_neg c]; omega
    have e3 := x_whichHave H g1 eg (f := f) (by omega)
    have ew : fo (fun j => if ((if j < T.2.1 then tb T E j else 0)).testBit f = true then 2 ^ j else 0) 6 = fo (fun j => if (tb T E j).testBit f = true then 2 ^ j else 0) T.2.1 := by
      rw [← fo_ext b.2]
      refine fo_cg fun j _ => ?_
      by_cases c : j < T.2.1
      · rw [if_pos c, if_pos c]
      · rw [if_neg c, if_neg c]; simp
    rw [ew] at e3
    have hw : fo (fun j => if (tb T E j).testBit f = true then 2 ^ j else 0) T.2.1 < 256 := fo_lt (b := 8) fun j hj => by
      by_cases c : (tb T E j).testBit f = true
      · rw [if_pos c]; exact Nat.pow_lt_pow_right (by decide) (by omega)
      · rw [if_neg c]; decide
    have pcw : pc (fo (fun j => if (tb T E j).testBit f = true then 2 ^ j else 0) T.2.1) = tlN T E f := pc_fo (by omega)
    have bw : ((nI (fo (fun j => if (tb T E j).testBit f = true then 2 ^ j else 0) T.2.1) >>> (nI i &&& 31)) &&& (1 : Int32)) = nI (if (fo (fun j => if (tb T E j).testBit f = true then 2 ^ j else 0) T.2.1).testBit i then 1 else 0) := nI_bit (by omega) (by omega)
    have bq : (fo (fun j => if (tb T E j).testBit f = true then 2 ^ j else 0) T.2.1).testBit i = true ↔ (tb T E i).testBit f = true := (fo_pbit (q := fun j => (tb T E j).testBit f)).trans ⟨fun z => z.2, fun z => ⟨hi, z⟩⟩
    have cl : tlN T E f ≤ T.2.1 := cnt_le _ _
    have es : shS T E i (f + 1) = shS T E i f + (if (tb T E i).testBit f = true then 60 / tlN T E f else 0) := rfl
    rw [fX8_share_21, ck_t (sh_0 H), rf_0_9 H, br_s, ck_t (sh_28 H), V.f, if_neg (nI_ge hf (by omega)), rf_0_12 H, br_s, e3, b2_s, t_bc hw, b2_s, pcw, bw, es]
    unfold fX8_share_71
    rw [nI_1]
    by_cases c : (tb T E i).testBit f = true
    · have cp : 0 < tlN T E f := cnt_pos (q := fun j => (tb T E j).testBit f) hi c
      rw [if_pos (bq.mpr c), if_neg (by decide), if_neg (n_le0 cp (by omega)), ck_t (nzI_t cp (by omega)), if_pos c, show (60 : Int32) = nI 60 from rfl, pk_div (by omega) cp (by omega), nI_add]
    · rw [if_neg (fun z => c (bq.mp z)), if_pos (by decide), if_neg c]
      rfl
theorem m_shareL (V : MV h T E) {i : Nat} (hi : i < T.2.1) : ∃ h', sc h h' ∧ fX9_share_21 gz_fu 85 (nI (tb T E i)) (0 : Int32) (0 : Int32) h = some (1, uL (uL h' 85 12 (lN (shS T E i T.1) / lN (Nat.gcd (shS T E i T.1) 60))) 85 13 (lN 60 / lN (Nat.gcd (shS T E i T.1) 60))) := by
  have b := V.b
  have tl := tb_lt8 V.2.1 V.2.2.1 hi
  have hfu : T.1 < 0 + gz_fu := by show T.1 < 0 + 100000; omega
  have hfu2 : T.2.1 < 0 + gz_fu := by show T.2.1 < 0 + 100000; omega
  generalize ef : gz_fu = fu at hfu hfu2
  refine lpr (fun m f (q : gz_H) => fX9_share_21 m 85 (nI (tb T E i)) (nI (shS T E i f)) (nI f) q) (fun f q => sc h q) T.1 (fun r => ∃ h', sc h h' ∧ r = some (1, uL (uL h' 85 12 (lN (shS T E i T.1) / lN (Nat.gcd (shS T E i T.1) 60))) 85 13 (lN 60 / lN (Nat.gcd (shS T E i T.1) 60)))) ?_ ?_ fu 0 h (by omega) hfu sc.rf
  · intro m q sq
    have W := V.sc sq
    have H := W.H
    have le := shS_le (T := T) (E := E) (i := i) T.1
    refine ⟨q, sq, ?_⟩
    rw [fX9_share_21, ck_t (sh_85 H), W.f, if_pos (nI_le (Nat.le_refl _) (by omega)), i_l64 (by omega), show (60 : Int64) = lN 60 from rfl, m_ratio H (by omega) (by omega) (by omega), b2_s]
  · intro m f q hf sq
    have W := V.sc sq
    have H := W.H
    have le := shS_le (T := T) (E := E) (i := i) f
    have es : shS T E i (f + 1) = shS T E i f + (if (tb T E i).testBit f = true then 60 / tlN T E f else 0) := rfl
    have A : ∃ s', sc h s' ∧ fX9_share_36 (fun z0 z1 z2 z3 zh => fX9_share_21 m z0 z1 z2 z3 zh) fu 85 (nI (tb T E i)) (nI (shS T E i f)) (nI f) (nI 0) (nI 0) q = fX9_share_21 m 85 (nI (tb T E i)) (nI (shS T E i (f + 1))) (nI (f + 1)) s' := by
      refine lpr (fun n j (s : gz_H) => fX9_share_36 (fun z0 z1 z2 z3 zh => fX9_share_21 m z0 z1 z2 z3 zh) n 85 (nI (tb T E i)) (nI (shS T E i f)) (nI f) (nI (cnt (fun j => (tb T E j).testBit f) j)) (nI j) s) (fun j s => sc h s) T.2.1 (fun r => ∃ s', sc h s' ∧ r = fX9_share_21 m 85 (nI (tb T E i)) (nI (shS T E i (f + 1))) (nI (f + 1)) s') ?_ ?_ fu 0 q (by omega) hfu2 sq
      · intro n s ss
        have W1 := V.sc ss
        have H1 := W1.H
        have cl : tlN T E f ≤ T.2.1 := cnt_le _ _
        refine ⟨s, ss, ?_⟩
        have eb : fX9_has (nI (tb T E i)) (nI f) s = some (nI (if (tb T E i).testBit f then 1 else 0), s) := t_has (by omega) (by omega)
        rw [fX9_share_36, ck_t (sh_85 H1), W1.n, if_pos (nI_le (Nat.le_refl _) (by omega)), eb, b2_s, es]
        unfold fX9_share_86
        by_cases c : (tb T E i).testBit f = true
        · have cp : 0 < tlN T E f := cnt_pos (q := fun j => (tb T E j).testBit f) hi c
          rw [if_pos c, if_neg (by decide), ck_t (nzI_t (n := cnt (fun j => (tb T E j).testBit f) T.2.1) cp (by unfold tlN at cl; omega)), if_pos c, show (60 : Int32) = nI 60 from rfl, pk_div (d := cnt (fun j => (tb T E j).testBit f) T.2.1) (by omega) cp (by unfold tlN at cl; omega), nI_add, nI_1]
          rfl
        · rw [if_neg c, if_pos (by decide), if_neg c, show (0 : Int32) = nI 0 from rfl, nI_add, nI_1]
      · intro n j s hj ss
        have W1 := V.sc ss
        have H1 := W1.H
        have tj := tb_lt8 V.2.1 V.2.2.1 hj
        obtain ⟨s', e, s2⟩ := m_toldBy W1 hj
        have ec : cnt (fun j => (tb T E j).testBit f) (j + 1) = cnt (fun j => (tb T E j).testBit f) j + (if (tb T E j).testBit f = true then 1 else 0) := rfl
        have eb : ((nI (tb T E j) >>> (nI f &&& 31)) &&& (1 : Int32)) = nI (if (tb T E j).testBit f then 1 else 0) := nI_bit (by omega) (by omega)
        refine ⟨s', ss.tr s2, ?_⟩
        rw [fX9_share_36, ck_t (sh_85 H1), W1.n, if_neg (nI_ge hj (by omega)), e, b2_s, eb, nI_add, nI_1, ec]
    obtain ⟨s', t1, t2⟩ := A
    refine ⟨s', t1, ?_⟩
    rw [fX9_share_21, ck_t (sh_85 H), W.f, if_neg (nI_ge hf (by omega)), ef]
    exact t2
theorem op_share (I : gz_Iv h) (x1 : Int32) : gz_ag (fX8_share 0 x1) (fX9_share 85 x1) h gz_Iv := by
  obtain ⟨T, D, ds, ks, sa, F⟩ := I.2
  have V := F.xv I.1.1
  have W := F.mv I.1.1
  have H := V.H
  have b := V.b
  rcases p_cases x1 T.2.1 (by omega) with hx | ⟨i, hi, rfl⟩
  · refine ag_no I (y := -1) ?_ ?_
    · unfold fX8_share fX8_share_0
      rw [ck_t (sh_0 H), rf_0_9 H, br_s, ck_t (sh_28 H), x_goose_out V hx, b2_s, if_pos (by decide)]
    · unfold fX9_share fX9_share_0
      rw [ck_t (sh_85 H), m_goose_out W hx, b2_s, if_pos (by decide)]
  · obtain ⟨h1, e1, s1, g1⟩ := x_hearAll V
    have V1 := V.sc s1
    have X := x_shareL V1 g1 hi
    have W1 : MV (uL (uL h1 20 0 (lN (shS T (rn T D ds) i T.1) / lN (Nat.gcd (shS T (rn T D ds) i T.1) 60))) 20 1 (lN 60 / lN (Nat.gcd (shS T (rn T D ds) i T.1) 60))) T (rn T D ds) := ((W.sc s1).kp kp.uL).kp kp.uL
    have H1 := W1.H
    obtain ⟨q1, e2, s2⟩ := m_toldBy W1 hi
    obtain ⟨q2, s3, M⟩ := m_shareL (W1.sc s2) hi
    refine r_end I (v := 1) (X := fX8_share 0 (nI i)) (M := fX9_share 85 (nI i)) ?_ s1 ?_ (s2.tr s3)
    · unfold fX8_share fX8_share_0
      rw [ck_t (sh_0 H), rf_0_9 H, br_s, ck_t (sh_28 H), x_goose_in V hi, b2_s, if_neg (by decide), ck_t (sh_0 H), e1, b2_s]
      exact X
    · unfold fX9_share fX9_share_0
      rw [ck_t (sh_85 H1), m_goose_in W1 hi, b2_s, if_neg (by decide), ck_t (sh_85 H1), e2, b2_s]
      exact M
end
