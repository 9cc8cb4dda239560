/-! PURE: odds, mid agree -/
def fp (g : Nat → Nat) : Nat → Nat
  | 0 => 1
  | n + 1 => fp g n * g n
theorem fp_cg {g g' : Nat → Nat} : ∀ {n : Nat}, (∀ i, i < n → g i = g' i) → fp g n = fp g' n := by
  intro n
  induction n with
  | zero => intro _; rfl
  | succ n ih => intro e; rw [fp, fp, ih (fun i hi => e i (by omega)), e n (by omega)]
theorem fp_le {g : Nat → Nat} {b : Nat} : ∀ {n : Nat}, (∀ i, i < n → g i ≤ b) → fp g n ≤ b ^ n := by
  intro n
  induction n with
  | zero => intro _; exact Nat.le_refl _
  | succ n ih => intro e; rw [fp, Nat.pow_succ]; exact Nat.mul_le_mul (ih (fun i hi => e i (by omega))) (e n (by omega))
theorem fp_zero {g : Nat → Nat} {i : Nat} (e : g i = 0) : ∀ {n : Nat}, i < n → fp g n = 0 := by
  intro n
  induction n with
  | zero => intro h; omega
  | succ n ih =>
    intro hi
    rw [fp]
    by_cases c : i = n
    · rw [← c, e, Nat.mul_zero]
    · rw [ih (by omega), Nat.zero_mul]
theorem fs_add {g : Nat → Nat} {a : Nat} : ∀ n, fs g (a + n) = fs g a + fs (fun i => g (a + i)) n := by
  intro n
  induction n with
  | zero => rfl
  | succ n ih =>
    show fs g (a + n) + g (a + n) = fs g a + (fs (fun i => g (a + i)) n + g (a + n))
    rw [ih, Nat.add_assoc]
theorem fs_mul {g : Nat → Nat} {c : Nat} : ∀ n, fs (fun i => g i * c) n = fs g n * c := by
  intro n
  induction n with
  | zero => show 0 = 0 * c; omega
  | succ n ih =>
    show fs (fun i => g i * c) n + g n * c = (fs g n + g n) * c
    rw [ih, Nat.add_mul]
theorem ways_sum (a b : Nat → Nat) : ∀ n, fs (fun s => fp (fun i => if s.testBit i = true then a i else b i) n) (2 ^ n) = fp (fun i => a i + b i) n := by
  intro n
  induction n with
  | zero => rfl
  | succ n ih =>
    have e1 : fs (fun s => fp (fun i => if s.testBit i = true then a i else b i) (n + 1)) (2 ^ n) = fs (fun s => fp (fun i => if s.testBit i = true then a i else b i) n) (2 ^ n) * b n := by
      rw [← fs_mul]
      refine fs_cg fun s hs => ?_
      rw [fp, Nat.testBit_lt_two_pow hs, if_neg (by decide)]
    have e2 : fs (fun s => fp (fun i => if (2 ^ n + s).testBit i = true then a i else b i) (n + 1)) (2 ^ n) = fs (fun s => fp (fun i => if s.testBit i = true then a i else b i) n) (2 ^ n) * a n := by
      rw [← fs_mul]
      refine fs_cg fun s hs => ?_
      rw [fp, Nat.testBit_two_pow_add_eq, Nat.testBit_lt_two_pow hs, Bool.not_false, if_pos rfl]
      congr 1
      refine fp_cg fun i hi => ?_
      rw [Nat.testBit_two_pow_add_gt hi]
    have e3 : 2 ^ (n + 1) = 2 ^ n + 2 ^ n := by rw [Nat.pow_succ]; omega
    rw [e3, fs_add, e1, e2, fp, ih, Nat.mul_add, Nat.add_comm]
theorem fp_pow {q : Nat → Bool} : ∀ n, fp (fun i => if q i = true then 1 else 12) n = 12 ^ (cnt (fun i => !q i) n) := by
  intro n
  induction n with
  | zero => rfl
  | succ n ih =>
    have e : cnt (fun i => !q i) (n + 1) = cnt (fun i => !q i) n + (if (!q n) = true then 1 else 0) := rfl
    rw [fp, ih, e]
    by_cases c : q n = true
    · rw [if_pos c, c, if_neg (by decide), Nat.mul_one, Nat.add_zero]
    · have c' : q n = false := by simpa using c
      rw [if_neg c, c', if_pos (by decide), Nat.pow_succ]
theorem l_add (a b : Nat) : lN a + lN b = lN (a + b) := (Int64.ofNat_add a b).symm
/-- one goose's ways -/
def wf (E : gz_D) (p s i : Nat) : Nat := if s.testBit i = true then (if (E i).2 = true then 0 else p) else (if (E i).2 = true then 1 else 12 - p)
def wy (T : gz_T) (E : gz_D) (p s : Nat) : Nat := fp (wf E p s) T.2.1
section
variable {h : gz_H} {T : gz_T} {E : gz_D}
theorem wf_le {p s i : Nat} (hp : p ≤ 12) : wf E p s i ≤ 12 := by
  unfold wf
  by_cases c : s.testBit i = true <;> by_cases d : (E i).2 = true <;> simp [c, d] <;> omega
theorem wy_le {p s : Nat} (hp : p ≤ 12) (hG : T.2.1 ≤ 6) : wy T E p s ≤ 2985984 :=
  Nat.le_trans (fp_le (b := 12) fun i _ => wf_le hp) (Nat.pow_le_pow_right (n := 12) (by decide) hG)
theorem wy_sum {p : Nat} (hp : p ≤ 12) : fs (fun s => wy T E p s) (2 ^ T.2.1) = 12 ^ (cnt (fun i => !(E i).2) T.2.1) := by
  rw [← fp_pow (q := fun i => (E i).2)]
  have := ways_sum (fun i => if (E i).2 = true then 0 else p) (fun i => if (E i).2 = true then 1 else 12 - p) T.2.1
  refine this.trans (fp_cg fun i _ => ?_)
  by_cases d : (E i).2 = true
  · simp [d]
  · simp [d]; omega
theorem x_ways (V : XV h T E) {s p : Nat} (hs : s < 256) (hp : p ≤ 12) : fX1_waysToReturn 28 (nI s) (nI p) h = some (lN (wy T E p s), h) := by
  have H := V.H
  have b := V.b
  unfold fX1_waysToReturn fX1_waysToReturn_0
  have A : ∀ m i, i ≤ T.2.1 → T.2.1 < i + m → fX1_waysToReturn_5 m 28 (nI s) (nI p) (lN (fp (wf E p s) i)) (nI i) h = some (lN (wy T E p s), h) := by
    intro m
    induction m with
    | zero => intro i h1 h2; omega
    | succ m ih =>
      intro i h1 h2
      rw [fX1_waysToReturn_5, ck_t (sh_28 H), V.n]
      by_cases c : i = T.2.1
      · subst c
        rw [if_pos (nI_le (Nat.le_refl _) (by omega))]
        rfl
      · have hi : i < T.2.1 := by omega
        have eb : ((nI s >>> (nI i &&& 31)) &&& (1 : Int32)) = nI (if s.testBit i then 1 else 0) := nI_bit (by omega) (by omega)
        have ef : fp (wf E p s) (i + 1) = fp (wf E p s) i * wf E p s i := rfl
        have ih' := ih (i + 1) (by omega) (by omega)
        rw [ef] at ih'
        have S : ∀ w : Int32, fX1_waysToReturn_28 (fun z0 z1 z2 z3 z4 zh => fX1_waysToReturn_5 m z0 z1 z2 z3 z4 zh) 28 (nI s) (nI p) (lN (fp (wf E p s) i)) (nI i) w h = if (E i).2 = true then (if w = 0 then fX1_waysToReturn_5 m 28 (nI s) (nI p) (lN (fp (wf E p s) i)) (nI (i + 1)) h else some ((0 : Int64), h)) else (if w = 0 then fX1_waysToReturn_5 m 28 (nI s) (nI p) (lN (fp (wf E p s) i * (12 - p))) (nI (i + 1)) h else fX1_waysToReturn_5 m 28 (nI s) (nI p) (lN (fp (wf E p s) i * p)) (nI (i + 1)) h) := by
          intro w
          unfold fX1_waysToReturn_28 fX1_waysToReturn_66 fX1_waysToReturn_68
          rw [ck_t (sh_28 H), rf_28_1 H, br_s, ck_t (in_30 H (by omega)), nI_clamp (by omega), rf_30 H (by omega), br_s, ck_t (sgk_31 H (by omega)), V.gn i hi, nI_1, show (12 : Int32) = nI 12 from rfl, pk_sub hp, i_l64 (by omega), i_l64 (by omega), l_mul, l_mul]
          by_cases d : (E i).2 = true
          · rw [if_pos d, if_neg (by decide), if_pos d]
          · rw [if_neg d, if_pos (by decide), if_neg d]
        rw [if_neg (nI_ge hi (by omega)), eb]
        unfold wf at ih'
        by_cases d : s.testBit i = true
        · rw [if_pos d] at ih'
          rw [if_pos d, if_neg (by decide), S]
          by_cases g : (E i).2 = true
          · rw [if_pos g, if_neg (by decide)]
            have : wf E p s i = 0 := by unfold wf; rw [if_pos d, if_pos g]
            unfold wy
            rw [fp_zero this hi]
            rfl
          · rw [if_neg g] at ih'
            rw [if_neg g, if_neg (by decide)]
            exact ih'
        · rw [if_neg d] at ih'
          rw [if_neg d, if_pos (by decide), S]
          by_cases g : (E i).2 = true
          · rw [if_pos g, Nat.mul_one] at ih'
            rw [if_pos g, if_pos rfl]
            exact ih'
          · rw [if_neg g] at ih'
            rw [if_neg g, if_pos rfl]
            exact ih'
  exact A gz_fu 0 (by omega) (by show T.2.1 < 0 + 100000; omega)
theorem m_ways (V : MV h T E) {s p : Nat} (hs : s < 2 ^ T.2.1) (hp : p ≤ 12) : fX9_waysOf 85 (nI s) (nI p) h = some (lN (wy T E p s), h) := by
  have H := V.H
  have b := V.b
  have p2 := p2_lt (k := T.2.1) (by omega)
  have A : ∀ c : Nat, fX9_waysOf_16 85 (nI s) (nI p) (lN c) h = some (lN (c * fp (fun i => if (E i).2 = true then 1 else if s.testBit i = true then p else 12 - p) T.2.1), h) := by
    intro c
    unfold fX9_waysOf_16
    have hfu : T.2.1 < 0 + gz_fu := by show T.2.1 < 0 + 100000; omega
    generalize gz_fu = fu at hfu ⊢
    have e1 : lN c = lN (c * fp (fun i => if (E i).2 = true then 1 else if s.testBit i = true then p else 12 - p) 0) := by
      show lN c = lN (c * 1)
      rw [Nat.mul_one]
    rw [e1]
    refine lp (fun m i (y : Int64) => fX9_waysOf_20 m 85 (nI s) (nI p) y (nI i) h) (fun i => lN (c * fp (fun i => if (E i).2 = true then 1 else if s.testBit i = true then p else 12 - p) i)) T.2.1 _ ?_ ?_ fu 0 (by omega) hfu
    · intro m
      rw [fX9_waysOf_20, ck_t (sh_85 H), V.n, if_pos (nI_le (Nat.le_refl _) (by omega))]
    · intro m i hi
      have eb : fX9_has (nI s) (nI i) h = some (nI (if s.testBit i then 1 else 0), h) := t_has (by omega) (by omega)
      rw [fX9_waysOf_20, ck_t (sh_85 H), V.n, if_neg (nI_ge hi (by omega)), m_isGone V hi, b2_s, eb, b2_s]
      unfold fX9_waysOf_62
      rw [nI_1, show (12 : Int32) = nI 12 from rfl, pk_sub hp, i_l64 (by omega), i_l64 (by omega), show (1 : Int64) = lN 1 from rfl, l_mul, l_mul, l_mul, fp, ← Nat.mul_assoc]
      by_cases d : (E i).2 = true
      · rw [if_pos d, if_neg (by decide), if_pos d]
      · rw [if_neg d, if_pos (by decide), if_neg d]
        by_cases g : s.testBit i = true
        · rw [if_pos g, if_neg (by decide), if_pos g]
        · rw [if_neg g, if_pos (by decide), if_neg g]
  have hg : h.2.1 86 1 = nI (gbits T.2.1 E) := V.gb
  have gl : gbits T.2.1 E < 2 ^ T.2.1 := fo_lt fun i hi => by
    by_cases d : (E i).2 = true
    · rw [if_pos d]; exact Nat.pow_lt_pow_right (by decide) hi
    · rw [if_neg d]; exact Nat.two_pow_pos _
  have al : s &&& gbits T.2.1 E < 2 ^ 31 := Nat.lt_of_le_of_lt Nat.and_le_left (by omega)
  unfold fX9_waysOf fX9_waysOf_0
  rw [ck_t (sh_85 H), rf_85_0 H, br_s, ck_t (show gz_inb h 86 10 (1 : Int32) = true from in_86 H (j := 1) (by decide)), show (1 : Int32).toNatClampNeg = 1 from rfl, hg, nI_and]
  by_cases z : s &&& gbits T.2.1 E = 0
  · rw [if_pos ((nI_z al).mpr z), show (1 : Int64) = lN 1 from rfl, A 1, Nat.one_mul]
    unfold wy
    have : fp (fun i => if (E i).2 = true then 1 else if s.testBit i = true then p else 12 - p) T.2.1 = fp (wf E p s) T.2.1 := fp_cg fun i hi => by
      unfold wf
      have zi : (s &&& gbits T.2.1 E).testBit i = false := by rw [z]; exact Nat.zero_testBit i
      rw [Nat.testBit_and, gb_bit hi] at zi
      by_cases d : (E i).2 = true
      · rw [d, Bool.and_true] at zi
        rw [if_pos d, zi, if_neg (by decide), if_pos d]
      · rw [if_neg d, if_neg d, if_neg d]
    rw [this]
  · rw [if_neg (fun q => z ((nI_z al).mp q)), show (0 : Int64) = lN 0 from rfl, A 0, Nat.zero_mul]
    unfold wy
    have ex : ∃ i, i < T.2.1 ∧ s.testBit i = true ∧ (E i).2 = true := by
      apply Classical.byContradiction
      intro q
      apply z
      apply bit_ext
      intro k
      rw [Nat.testBit_and, Nat.zero_testBit]
      constructor
      · intro y
        have y := Bool.and_eq_true_iff.mp y
        by_cases hk : k < T.2.1
        · rw [gb_bit hk] at y
          exact absurd ⟨k, hk, y⟩ q
        · have : (gbits T.2.1 E).testBit k = false := Nat.testBit_lt_two_pow (Nat.lt_of_lt_of_le gl (Nat.pow_le_pow_right (n := 2) (by decide) (by omega)))
          rw [this] at y
          exact absurd y.2 (by decide)
      · intro y; exact absurd y (by decide)
    obtain ⟨i, hi, q1, q2⟩ := ex
    rw [fp_zero (i := i) (by unfold wf; rw [if_pos q1, if_pos q2]) hi]
def hb (T : gz_T) (E : gz_D) (s : Nat) : Nat := fo (fun i => if s.testBit i = true then hs (E i).1 else 0) T.2.1
theorem hb_lt (w : wsT T) (d : wd T E) {s : Nat} : hb T E s < 256 := fo_lt (b := 8) fun i hi => by
  by_cases c : s.testBit i = true
  · rw [if_pos c]
    exact Nat.lt_of_lt_of_le (hsT d hi) (Nat.pow_le_pow_right (n := 2) (by decide) w.1)
  · rw [if_neg c]; decide
theorem x_hb (V : XV h T E) {s : Nat} (h8 : s < 256) : fX1_heldBySet 28 (nI s) h = some (nI (hb T E s), h) := x_heldBySet V (p := fun i => s.testBit i) (fun i hi => nI_bts (by omega) (by have := V.b; omega))
theorem m_hb (V : MV h T E) {s : Nat} (h8 : s < 256) : fX9_heldBySome 85 (nI s) h = some (nI (hb T E s), h) := by
  have H := V.H
  have b := V.b
  unfold fX9_heldBySome fX9_heldBySome_0
  have hfu : T.2.1 < 0 + gz_fu := by show T.2.1 < 0 + 100000; omega
  generalize gz_fu = fu at hfu ⊢
  refine lp (fun m i (y : Int32) => fX9_heldBySome_4 m 85 (nI s) y (nI i) h) (fun k => nI (fo (fun i => if s.testBit i = true then hs (E i).1 else 0) k)) T.2.1 _ ?_ ?_ fu 0 (by omega) hfu
  · intro m
    rw [fX9_heldBySome_4, ck_t (sh_85 H), V.n, if_pos (nI_le (Nat.le_refl _) (by omega))]
    rfl
  · intro m i hi
    have eb : fX9_has (nI s) (nI i) h = some (nI (if s.testBit i then 1 else 0), h) := t_has (by omega) (by omega)
    rw [fX9_heldBySome_4, ck_t (sh_85 H), V.n, if_neg (nI_ge hi (by omega)), eb, b2_s]
    unfold fX9_heldBySome_30
    rw [fo, nI_1]
    by_cases c : s.testBit i = true
    · rw [if_pos c, if_neg (by decide), ck_t (sh_85 H), m_heldBy V hi, b2_s, nI_or, if_pos c]
    · rw [if_neg c, if_pos (by decide), show (0 : Int32) = nI 0 from rfl, nI_or, if_neg c]
theorem x_power {k : Nat} (hk : k ≤ 6) : fX8_power (12 : Int32) (nI k) h = some (lN (12 ^ k), h) := by
  unfold fX8_power fX8_power_0
  have hfu : k < 0 + gz_fu := by show k < 0 + 100000; omega
  generalize gz_fu = fu at hfu ⊢
  refine lp (fun m i (y : Int64) => fX8_power_5 m (12 : Int32) (nI k) y (nI i) h) (fun i => lN (12 ^ i)) k _ ?_ ?_ fu 0 (by omega) hfu
  · intro m
    rw [fX8_power_5, if_pos (nI_le (Nat.le_refl _) (by omega))]
  · intro m i hi
    rw [fX8_power_5, if_neg (nI_ge hi (by omega)), show (12 : Int32).toInt64 = lN 12 from rfl, l_mul, nI_1, Nat.pow_succ]
theorem x_alive2 (V : XV h T E) : fX1_alive 28 h = some (nI (cnt (fun i => !(E i).2) T.2.1), h) := by
  have b := V.b
  rw [x_alive V]
  have e : pc (gbits T.2.1 E) = cnt (fun i => (E i).2) T.2.1 := pc_fo (by omega)
  have c := cnt_not (fun i => (E i).2) T.2.1
  rw [e, show T.2.1 - cnt (fun i => (E i).2) T.2.1 = cnt (fun i => !(E i).2) T.2.1 by omega]
def odS (T : gz_T) (E : gz_D) (p f : Nat) (k : Nat) : Nat := fs (fun s => if sd f (hb T E s) = 0 then wy T E p s else 0) k
def mdS (T : gz_T) (E : gz_D) (p : Nat) (k : Nat) : Nat := fs (fun s => wy T E p s * pc (hb T E s)) k
def bel (T : gz_T) (E : gz_D) : Nat := 12 ^ (cnt (fun i => !(E i).2) T.2.1)
theorem bel_b (hG : T.2.1 ≤ 6) : 0 < bel T E ∧ bel T E ≤ 2985984 :=
  ⟨Nat.pow_pos (by decide), Nat.pow_le_pow_right (n := 12) (by decide) (Nat.le_trans (cnt_le _ _) hG)⟩
theorem odS_le {p f k : Nat} (hp : p ≤ 12) (hG : T.2.1 ≤ 6) : odS T E p f k ≤ k * 2985984 := fs_le fun s _ => by
  have := wy_le (T := T) (E := E) (s := s) hp hG
  by_cases c : sd f (hb T E s) = 0
  · rw [if_pos c]; exact this
  · rw [if_neg c]; omega
theorem mdS_le {p k : Nat} (hp : p ≤ 12) (hG : T.2.1 ≤ 6) : mdS T E p k ≤ k * (2985984 * 8) := fs_le fun s _ => Nat.mul_le_mul (wy_le hp hG) (pc_le _)
theorem x_oddsL (V : XV h T E) {f p : Nat} (hf : f < 2 ^ T.1) (hp : p ≤ 12) : fX8_odds_28 gz_fu 0 (nI f) (nI p) (0 : Int64) (0 : Int32) h = some (1, uL (uL h 20 0 (lN (odS T E p f (2 ^ T.2.1)) / lN (Nat.gcd (odS T E p f (2 ^ T.2.1)) (bel T E)))) 20 1 (lN (bel T E) / lN (Nat.gcd (odS T E p f (2 ^ T.2.1)) (bel T E)))) := by
  have H := V.H
  have b := V.b
  have p2 := p2_lt (k := T.2.1) (by omega)
  have p1 := p2_lt b.1
  have e9 : (1 : Int32) <<< (nI T.2.1 &&& 31) = nI (2 ^ T.2.1) := nI_shl (by omega)
  have bb := bel_b (E := E) b.2
  have hfu : 2 ^ T.2.1 < 0 + gz_fu := by show 2 ^ T.2.1 < 0 + 100000; omega
  generalize gz_fu = fu at hfu ⊢
  refine lp (fun m k (y : Int64) => fX8_odds_28 m 0 (nI f) (nI p) y (nI k) h) (fun k => lN (odS T E p f k)) (2 ^ T.2.1) _ ?_ ?_ fu 0 (by omega) hfu
  · intro m
    have le := odS_le (T := T) (E := E) (f := f) (k := 2 ^ T.2.1) hp b.2
    have c6 : cnt (fun i => !(E i).2) T.2.1 ≤ T.2.1 := cnt_le _ _
    have ep : fX8_power (12 : Int32) (nI (cnt (fun i => !(E i).2) T.2.1)) h = some (lN (bel T E), h) := x_power (by omega)
    rw [fX8_odds_28, ck_t (sh_0 H), rf_0_9 H, br_s, ck_t (sh_28 H), V.n, e9, if_pos (nI_le (Nat.le_refl _) (by omega)), rf_0_4 H, br_s, x_alive2 V, b2_s, ep, b2_s, ck_t (sh_20 H), x_ratio H (by omega) (by omega) (by omega), b2_s]
  · intro m k hk
    have es : odS T E p f (k + 1) = odS T E p f k + (if sd f (hb T E k) = 0 then wy T E p k else 0) := rfl
    have hsd : sd f (hb T E k) < 256 := sd_lt (c := 8) (by omega)
    rw [fX8_odds_28, ck_t (sh_0 H), rf_0_9 H, br_s, ck_t (sh_28 H), V.n, e9, if_neg (nI_ge hk (by omega)), x_hb V (by omega), b2_s, nI_nand, es]
    unfold fX8_odds_71
    rw [nI_1]
    by_cases c : sd f (hb T E k) = 0
    · rw [if_pos ((nI_z (by omega)).mpr c), if_pos c, ck_t (sh_0 H), rf_0_9 H, br_s, ck_t (sh_28 H), x_ways V (by omega) hp, b2_s, l_add]
    · rw [if_neg (fun z => c ((nI_z (by omega)).mp z)), if_neg c]
      rfl
theorem m_oddsL (V : MV h T E) {f p : Nat} (hf : f < 2 ^ T.1) (hp : p ≤ 12) : fX9_odds_30 gz_fu 85 (nI f) (nI p) (0 : Int64) (0 : Int64) (0 : Int32) h = some (1, uL (uL h 85 12 (lN (odS T E p f (2 ^ T.2.1)) / lN (Nat.gcd (odS T E p f (2 ^ T.2.1)) (bel T E)))) 85 13 (lN (bel T E) / lN (Nat.gcd (odS T E p f (2 ^ T.2.1)) (bel T E)))) := by
  have H := V.H
  have b := V.b
  have p2 := p2_lt (k := T.2.1) (by omega)
  have p1 := p2_lt b.1
  have e9 : (1 : Int32) <<< (nI T.2.1 &&& 31) = nI (2 ^ T.2.1) := nI_shl (by omega)
  have bb := bel_b (E := E) b.2
  have hfu : 2 ^ T.2.1 < 0 + gz_fu := by show 2 ^ T.2.1 < 0 + 100000; omega
  generalize gz_fu = fu at hfu ⊢
  refine lp (fun m k (y : Int64 × Int64) => fX9_odds_30 m 85 (nI f) (nI p) y.1 y.2 (nI k) h) (fun k => (lN (odS T E p f k), lN (fs (fun s => wy T E p s) k))) (2 ^ T.2.1) _ ?_ ?_ fu 0 (by omega) hfu
  · intro m
    have le := odS_le (T := T) (E := E) (f := f) (k := 2 ^ T.2.1) hp b.2
    show fX9_odds_30 (m + 1) 85 (nI f) (nI p) (lN (odS T E p f (2 ^ T.2.1))) (lN (fs (fun s => wy T E p s) (2 ^ T.2.1))) (nI (2 ^ T.2.1)) h = _
    rw [wy_sum hp, show 12 ^ (cnt (fun i => !(E i).2) T.2.1) = bel T E from rfl, fX9_odds_30, ck_t (sh_85 H), V.n, e9, if_pos (nI_le (Nat.le_refl _) (by omega)), m_ratio H (by omega) (by omega) (by omega), b2_s]
  · intro m k hk
    have es : odS T E p f (k + 1) = odS T E p f k + (if sd f (hb T E k) = 0 then wy T E p k else 0) := rfl
    have ew : fs (fun s => wy T E p s) (k + 1) = fs (fun s => wy T E p s) k + wy T E p k := rfl
    have hsd : sd f (hb T E k) < 256 := sd_lt (c := 8) (by omega)
    show fX9_odds_30 (m + 1) 85 (nI f) (nI p) (lN (odS T E p f k)) (lN (fs (fun s => wy T E p s) k)) (nI k) h = fX9_odds_30 m 85 (nI f) (nI p) (lN (odS T E p f (k + 1))) (lN (fs (fun s => wy T E p s) (k + 1))) (nI (k + 1)) h
    rw [fX9_odds_30, ck_t (sh_85 H), V.n, e9, if_neg (nI_ge hk (by omega)), m_hb V (by omega), b2_s, nI_nand, es, ew]
    unfold fX9_odds_66
    rw [nI_1]
    by_cases c : sd f (hb T E k) = 0
    · rw [if_pos ((nI_z (by omega)).mpr c), if_pos c, ck_t (sh_85 H), m_ways V hk hp, b2_s, ck_t (sh_85 H), m_ways V hk hp, b2_s, l_add, l_add]
    · rw [if_neg (fun z => c ((nI_z (by omega)).mp z)), if_neg c, ck_t (sh_85 H), m_ways V hk hp, b2_s, show (0 : Int64) = lN 0 from rfl, l_add, l_add]
theorem x_midL (V : XV h T E) {p : Nat} (hp : p ≤ 12) : fX8_mid_17 gz_fu 0 (nI p) (0 : Int64) (0 : Int32) h = some (1, uL (uL h 20 0 (lN (mdS T E p (2 ^ T.2.1)) / lN (Nat.gcd (mdS T E p (2 ^ T.2.1)) (bel T E)))) 20 1 (lN (bel T E) / lN (Nat.gcd (mdS T E p (2 ^ T.2.1)) (bel T E)))) := by
  have H := V.H
  have b := V.b
  have p2 := p2_lt (k := T.2.1) (by omega)
  have e9 : (1 : Int32) <<< (nI T.2.1 &&& 31) = nI (2 ^ T.2.1) := nI_shl (by omega)
  have bb := bel_b (E := E) b.2
  have hfu : 2 ^ T.2.1 < 0 + gz_fu := by show 2 ^ T.2.1 < 0 + 100000; omega
  generalize gz_fu = fu at hfu ⊢
  refine lp (fun m k (y : Int64) => fX8_mid_17 m 0 (nI p) y (nI k) h) (fun k => lN (mdS T E p k)) (2 ^ T.2.1) _ ?_ ?_ fu 0 (by omega) hfu
  · intro m
    have le := mdS_le (T := T) (E := E) (k := 2 ^ T.2.1) hp b.2
    have c6 : cnt (fun i => !(E i).2) T.2.1 ≤ T.2.1 := cnt_le _ _
    have ep : fX8_power (12 : Int32) (nI (cnt (fun i => !(E i).2) T.2.1)) h = some (lN (bel T E), h) := x_power (by omega)
    rw [fX8_mid_17, ck_t (sh_0 H), rf_0_9 H, br_s, ck_t (sh_28 H), V.n, e9, if_pos (nI_le (Nat.le_refl _) (by omega)), rf_0_4 H, br_s, x_alive2 V, b2_s, ep, b2_s, ck_t (sh_20 H), x_ratio H (by omega) (by omega) (by omega), b2_s]
  · intro m k hk
    have es : mdS T E p (k + 1) = mdS T E p k + wy T E p k * pc (hb T E k) := rfl
    have q := pc_le (hb T E k)
    rw [fX8_mid_17, ck_t (sh_0 H), rf_0_9 H, br_s, ck_t (sh_28 H), V.n, e9, if_neg (nI_ge hk (by omega)), x_ways V (by omega) hp, b2_s, ck_t (sh_0 H), rf_0_9 H, br_s, ck_t (sh_28 H), x_hb V (by omega), b2_s, t_bc (hb_lt V.2.1 V.2.2.1), b2_s, i_l64 (by omega), l_mul, l_add, es, nI_1]
theorem m_midL (V : MV h T E) {p : Nat} (hp : p ≤ 12) : fX9_mid_22 gz_fu 85 (nI p) (0 : Int64) (0 : Int64) (0 : Int32) h = some (1, uL (uL h 85 12 (lN (mdS T E p (2 ^ T.2.1)) / lN (Nat.gcd (mdS T E p (2 ^ T.2.1)) (bel T E)))) 85 13 (lN (bel T E) / lN (Nat.gcd (mdS T E p (2 ^ T.2.1)) (bel T E)))) := by
  have H := V.H
  have b := V.b
  have p2 := p2_lt (k := T.2.1) (by omega)
  have e9 : (1 : Int32) <<< (nI T.2.1 &&& 31) = nI (2 ^ T.2.1) := nI_shl (by omega)
  have bb := bel_b (E := E) b.2
  have hfu : 2 ^ T.2.1 < 0 + gz_fu := by show 2 ^ T.2.1 < 0 + 100000; omega
  generalize gz_fu = fu at hfu ⊢
  refine lp (fun m k (y : Int64 × Int64) => fX9_mid_22 m 85 (nI p) y.1 y.2 (nI k) h) (fun k => (lN (mdS T E p k), lN (fs (fun s => wy T E p s) k))) (2 ^ T.2.1) _ ?_ ?_ fu 0 (by omega) hfu
  · intro m
    have le := mdS_le (T := T) (E := E) (k := 2 ^ T.2.1) hp b.2
    show fX9_mid_22 (m + 1) 85 (nI p) (lN (mdS T E p (2 ^ T.2.1))) (lN (fs (fun s => wy T E p s) (2 ^ T.2.1))) (nI (2 ^ T.2.1)) h = _
    rw [wy_sum hp, show 12 ^ (cnt (fun i => !(E i).2) T.2.1) = bel T E from rfl, fX9_mid_22, ck_t (sh_85 H), V.n, e9, if_pos (nI_le (Nat.le_refl _) (by omega)), m_ratio H (by omega) (by omega) (by omega), b2_s]
  · intro m k hk
    have es : mdS T E p (k + 1) = mdS T E p k + wy T E p k * pc (hb T E k) := rfl
    have ew : fs (fun s => wy T E p s) (k + 1) = fs (fun s => wy T E p s) k + wy T E p k := rfl
    have hl := hb_lt (s := k) V.2.1 V.2.2.1
    have q := pc_le (hb T E k)
    show fX9_mid_22 (m + 1) 85 (nI p) (lN (mdS T E p k)) (lN (fs (fun s => wy T E p s) k)) (nI k) h = fX9_mid_22 m 85 (nI p) (lN (mdS T E p (k + 1))) (lN (fs (fun s => wy T E p s) (k + 1))) (nI (k + 1)) h
    rw [fX9_mid_22, ck_t (sh_85 H), V.n, e9, if_neg (nI_ge hk (by omega)), m_hb V (by omega), b2_s, t_bits (by omega), b2_s, ck_t (sh_85 H), m_ways V hk hp, b2_s, ck_t (sh_85 H), m_ways V hk hp, b2_s, i_l64 (by omega), l_mul, l_add, l_add, es, ew, nI_1, Nat.mul_comm (pc _)]
theorem op_odds (I : gz_Iv h) (x1 x2 : Int32) : gz_ag (fX8_odds 0 x1 x2) (fX9_odds 85 x1 x2) h gz_Iv := by
  obtain ⟨T, D, ds, ks, sa, F⟩ := I.2
  have V := F.xv I.1.1
  have W := F.mv I.1.1
  have H := V.H
  have b := V.b
  have p1 := p2_lt b.1
  rcases p_cases x1 (2 ^ T.1) (by omega) with hx | ⟨f, hf, rfl⟩
  · refine ag_no I (y := -1) ?_ ?_
    · unfold fX8_odds fX8_odds_0
      rw [ck_t (sh_0 H), rf_0_9 H, br_s, ck_t (sh_28 H), x_fset_out V hx, b2_s, if_pos (by decide)]
    · unfold fX9_odds fX9_odds_0
      rw [ck_t (sh_85 H), m_set_out W hx, b2_s, if_pos (by decide)]
  rcases p_cases x2 13 (by omega) with hx | ⟨p, hp, rfl⟩
  · refine ag_no I (y := -1) ?_ ?_
    · unfold fX8_odds fX8_odds_0
      rw [ck_t (sh_0 H), rf_0_9 H, br_s, ck_t (sh_28 H), x_fset_in V hf, b2_s, if_neg (by decide)]
      by_cases c : x2 < 0
      · rw [if_pos c]
      · have h1 := hx.resolve_left c
        rw [if_neg c, if_neg (by rw [Int32.le_iff_toInt_le] at h1 ⊢; intro z; have z : x2.toInt ≤ 12 := z; have h1 : 13 ≤ x2.toInt := h1; omega)]
    · unfold fX9_odds fX9_odds_0
      rw [ck_t (sh_85 H), m_set_in W hf, b2_s, if_neg (by decide), show (12 : Int64) = (nI 12).toInt64 from rfl, m_in_gt hx (by omega), b2_s, if_pos (by decide)]
  refine r_end I (v := 1) (A := lN (odS T (rn T D ds) p f (2 ^ T.2.1)) / lN (Nat.gcd (odS T (rn T D ds) p f (2 ^ T.2.1)) (bel T (rn T D ds)))) (B := lN (bel T (rn T D ds)) / lN (Nat.gcd (odS T (rn T D ds) p f (2 ^ T.2.1)) (bel T (rn T D ds)))) (X := fX8_odds 0 (nI f) (nI p)) (M := fX9_odds 85 (nI f) (nI p)) ?_ sc.rf ?_ sc.rf
  · unfold fX8_odds fX8_odds_0
    rw [ck_t (sh_0 H), rf_0_9 H, br_s, ck_t (sh_28 H), x_fset_in V hf, b2_s, if_neg (by decide), if_neg (nI_pos (by omega)), if_pos (show nI p ≤ (12 : Int32) from nI_le (b := 12) (by omega) (by decide))]
    exact x_oddsL V hf (by omega)
  · have W1 : MV (uL (uL h 20 0 (lN (odS T (rn T D ds) p f (2 ^ T.2.1)) / lN (Nat.gcd (odS T (rn T D ds) p f (2 ^ T.2.1)) (bel T (rn T D ds))))) 20 1 (lN (bel T (rn T D ds)) / lN (Nat.gcd (odS T (rn T D ds) p f (2 ^ T.2.1)) (bel T (rn T D ds))))) T (rn T D ds) := (W.kp kp.uL).kp kp.uL
    have H1 := W1.H
    unfold fX9_odds fX9_odds_0
    rw [ck_t (sh_85 H1), m_set_in W1 hf, b2_s, if_neg (by decide), show (12 : Int64) = (nI 12).toInt64 from rfl, m_in_le (by omega) (by omega), b2_s, if_neg (by decide)]
    exact m_oddsL W1 hf (by omega)
theorem op_mid (I : gz_Iv h) (x1 : Int32) : gz_ag (fX8_mid 0 x1) (fX9_mid 85 x1) h gz_Iv := by
  obtain ⟨T, D, ds, ks, sa, F⟩ := I.2
  have V := F.xv I.1.1
  have W := F.mv I.1.1
  have H := V.H
  have b := V.b
  rcases p_cases x1 13 (by omega) with hx | ⟨p, hp, rfl⟩
  · refine ag_no I (y := -1) ?_ ?_
    · unfold fX8_mid fX8_mid_0
      by_cases c : x1 < 0
      · rw [if_pos c]
      · have h1 := hx.resolve_left c
        rw [if_neg c, if_neg (by rw [Int32.le_iff_toInt_le] at h1 ⊢; intro z; have z : x1.toInt ≤ 12 := z; have h1 : 13 ≤ x1.toInt := h1; omega)]
    · unfold fX9_mid fX9_mid_0
      rw [show (12 : Int64) = (nI 12).toInt64 from rfl, m_in_gt hx (by omega), b2_s, if_pos (by decide)]
  refine r_end I (v := 1) (A := lN (mdS T (rn T D ds) p (2 ^ T.2.1)) / lN (Nat.gcd (mdS T (rn T D ds) p (2 ^ T.2.1)) (bel T (rn T D ds)))) (B := lN (bel T (rn T D ds)) / lN (Nat.gcd (mdS T (rn T D ds) p (2 ^ T.2.1)) (bel T (rn T D ds)))) (X := fX8_mid 0 (nI p)) (M := fX9_mid 85 (nI p)) ?_ sc.rf ?_ sc.rf
  · unfold fX8_mid fX8_mid_0
    rw [if_neg (nI_pos (by omega)), if_pos (show nI p ≤ (12 : Int32) from nI_le (b := 12) (by omega) (by decide))]
    exact x_midL V (by omega)
  · have W1 : MV (uL (uL h 20 0 (lN (mdS T (rn T D ds) p (2 ^ T.2.1)) / lN (Nat.gcd (mdS T (rn T D ds) p (2 ^ T.2.1)) (bel T (rn T D ds))))) 20 1 (lN (bel T (rn T D ds)) / lN (Nat.gcd (mdS T (rn T D ds) p (2 ^ T.2.1)) (bel T (rn T D ds))))) T (rn T D ds) := (W.kp kp.uL).kp kp.uL
    unfold fX9_mid fX9_mid_0
    rw [show (12 : Int64) = (nI 12).toInt64 from rfl, m_in_le (by omega) (by omega), b2_s, if_neg (by decide)]
    exact m_midL W1 (by omega)
end
