/-! PURE: digest agrees -/
def dfL (g : Nat → Int32) (x : Int64) : Nat → Int64
  | 0 => x
  | k + 1 => (31 : Int64) * dfL g x k + (g k).toInt64
theorem dfL_cg {g g' : Nat → Int32} {x : Int64} : ∀ {n : Nat}, (∀ k, k < n → g k = g' k) → dfL g x n = dfL g' x n := by
  intro n
  induction n with
  | zero => intro _; rfl
  | succ n ih => intro e; rw [dfL, dfL, ih (fun k hk => e k (by omega)), e n (by omega)]
/-- the geese -/
def dgG (T : gz_T) (E : gz_D) (x : Int64) : Nat → Int64
  | 0 => x
  | i + 1 => dfL (fun k => nI ((E i).1.getD k 0)) (dfL (gA T E i) (dgG T E x i) 7) (E i).1.length
def snN (v : Int32) : Nat := if v = -1 then 0 else v.toNatClampNeg
/-- a shelf -/
def dgS (z : Nat → Int32) (cs : Nat → Nat → Int32) (x : Int64) : Nat → Int64
  | 0 => x
  | k + 1 => dfL (cs k) ((31 : Int64) * dgS z cs x k + (z k).toInt64) (snN (z k))
section
variable {h : gz_H} {T : gz_T} {E : gz_D}
theorem x_dgG (V : XV h T E) {i : Nat} (hi : i < T.2.1) (x : Int64) : fX2_digestFrom (31 + 2 * i) x h = some (dfL (fun k => nI ((E i).1.getD k 0)) (dfL (gA T E i) x 7) (E i).1.length, h) := by
  have H := V.H
  have b := V.b
  obtain ⟨g1, g2, g3, g4, g5, g6⟩ := V.gv i hi
  unfold fX2_digestFrom fX2_digestFrom_0
  have hfu7 : 7 < 0 + gz_fu := by show 7 < 0 + 100000; omega
  have hfu8 : (E i).1.length < 0 + gz_fu := by show (E i).1.length < 0 + 100000; omega
  generalize ef : gz_fu = fu at hfu7 hfu8
  refine lp (fun m k (y : Int64) => fX2_digestFrom_5 m (31 + 2 * i) y (nI k) h) (fun k => dfL (gA T E i) x k) 7 _ ?_ ?_ fu 0 (by omega) hfu7
  · intro m
    rw [fX2_digestFrom_5, if_pos (by decide), ef]
    refine lp (fun m k (y : Int64) => fX2_digestFrom_35 m (31 + 2 * i) y (nI k) h) (fun k => dfL (fun k => nI ((E i).1.getD k 0)) (dfL (gA T E i) x 7) k) (E i).1.length _ ?_ ?_ fu 0 (by omega) hfu8
    · intro m
      rw [fX2_digestFrom_35, ck_t (sh_t g1), g5, if_pos (nI_le (Nat.le_refl _) (by omega))]
    · intro m k hk
      rw [fX2_digestFrom_35, ck_t (sh_t g1), g5, if_neg (nI_ge hk (by omega)), g3, br_s, ck_t (inb_nI g2 (by omega) (by decide)), nI_clamp (by omega), g6 k hk, lt_d, nI_1]
      rfl
  · intro m k hk
    rw [fX2_digestFrom_5, if_neg (show ¬ (7 : Int32) ≤ nI k from nI_ge hk (by decide)), ck_t (sh_t g1), x_answer V hi hk, b2_s, nI_1]
    rfl
theorem x_dgF (V : XV h T E) (x : Int64) : fX1_digestFrom 28 x h = some (dgG T E (dfL (fun k => nI (T.2.2.1 k)) x T.1) T.2.1, h) := by
  have H := V.H
  have b := V.b
  unfold fX1_digestFrom fX1_digestFrom_0
  have hfu1 : T.1 < 0 + gz_fu := by show T.1 < 0 + 100000; omega
  have hfu2 : T.2.1 < 0 + gz_fu := by show T.2.1 < 0 + 100000; omega
  generalize ef : gz_fu = fu at hfu1 hfu2
  refine lp (fun m k (y : Int64) => fX1_digestFrom_5 m 28 y (nI k) h) (fun k => dfL (fun k => nI (T.2.2.1 k)) x k) T.1 _ ?_ ?_ fu 0 (by omega) hfu1
  · intro m
    rw [fX1_digestFrom_5, ck_t (sh_28 H), V.f, if_pos (nI_le (Nat.le_refl _) (by omega)), ef]
    refine lp (fun m k (y : Int64) => fX1_digestFrom_38 m 28 y (nI k) h) (fun k => dgG T E (dfL (fun k => nI (T.2.2.1 k)) x T.1) k) T.2.1 _ ?_ ?_ fu 0 (by omega) hfu2
    · intro m
      rw [fX1_digestFrom_38, ck_t (sh_28 H), V.n, if_pos (nI_le (Nat.le_refl _) (by omega))]
    · intro m k hk
      rw [fX1_digestFrom_38, ck_t (sh_28 H), V.n, if_neg (nI_ge hk (by omega)), rf_28_1 H, br_s, ck_t (in_30 H (by omega)), nI_clamp (by omega), rf_30 H (by omega), br_s, ck_t (sgk_31 H (by omega)), x_dgG V hk, b2_s, nI_1]
      rfl
  · intro m k hk
    have ep : h.2.1 29 k = nI (T.2.2.1 k) := V.2.2.2.2.2.1 k hk
    rw [fX1_digestFrom_5, ck_t (sh_28 H), V.f, if_neg (nI_ge hk (by omega)), rf_28_0 H, br_s, ck_t (in_29 H (by omega)), nI_clamp (by omega), ep, lt_d, nI_1]
    rfl
theorem sn_le {v : Int32} {g : Nat} (hg : g < 2 ^ 31) (hv : v = -1 ∨ ∃ n, n ≤ g ∧ v = nI n) : snN v ≤ g ∧ v ≤ nI (snN v) ∧ ∀ k, k < snN v → ¬ v ≤ nI k := by
  unfold snN
  rcases hv with e | ⟨n, hn, e⟩
  · rw [e, if_pos rfl]
    exact ⟨by omega, by decide, fun k hk => absurd hk (by omega)⟩
  · rw [e, if_neg (n_ne n (by omega)), nI_clamp (by omega)]
    exact ⟨hn, nI_le (Nat.le_refl _) (by omega), fun k hk => nI_ge hk (by omega)⟩
theorem x_dgS {s o b z c g : Nat} (S : gz_Sf h s o b z c g) (hv : ∀ k, k < c → h.2.1 z k = -1 ∨ ∃ n, n ≤ g ∧ h.2.1 z k = nI n) (x : Int64) : fX7_digestFrom s x h = some (dgS (fun k => h.2.1 z k) (fun k i => h.2.1 (b + k) i) x c, h) := by
  obtain ⟨s1, s2, s3, s4, s5, s6, s7, s8, s9⟩ := S
  unfold fX7_digestFrom fX7_digestFrom_0
  have hfu1 : c < 0 + gz_fu := by show c < 0 + 100000; omega
  have hfu2 : ∀ k, k < c → snN (h.2.1 z k) < 0 + gz_fu := fun k hk => by
    have := (sn_le (g := g) (by omega) (hv k hk)).1
    show snN (h.2.1 z k) < 0 + 100000; omega
  generalize ef : gz_fu = fu at hfu1 hfu2
  refine lp (fun m k (y : Int64) => fX7_digestFrom_5 m s y (nI k) h) (fun k => dgS (fun k => h.2.1 z k) (fun k i => h.2.1 (b + k) i) x k) c _ ?_ ?_ fu 0 (by omega) hfu1
  · intro m
    rw [fX7_digestFrom_5, ck_t (sh_t s1), s3, br_s, len_s s5 (by omega), bi_s, if_pos (nI_le (Nat.le_refl _) (by omega))]
  · intro m k hk
    have sn := sn_le (g := g) (by omega) (hv k hk)
    have A : ∀ y : Int64, fX7_digestFrom_33 (fun z0 z1 z2 zh => fX7_digestFrom_5 m z0 z1 z2 zh) fu s y (nI k) (nI 0) h = fX7_digestFrom_5 m s (dfL (fun i => h.2.1 (b + k) i) y (snN (h.2.1 z k))) (nI (k + 1)) h := by
      intro y
      refine lp (fun n i (y : Int64) => fX7_digestFrom_33 (fun z0 z1 z2 zh => fX7_digestFrom_5 m z0 z1 z2 zh) n s y (nI k) (nI i) h) (fun i => dfL (fun i => h.2.1 (b + k) i) y i) (snN (h.2.1 z k)) _ ?_ ?_ fu 0 (by omega) (hfu2 k hk)
      · intro n
        rw [fX7_digestFrom_33, ck_t (sh_t s1), s3, br_s, ck_t (inb_nI s5 hk (by omega)), nI_clamp (by omega), if_pos sn.2.1, nI_1]
      · intro n i hi
        rw [fX7_digestFrom_33, ck_t (sh_t s1), s3, br_s, ck_t (inb_nI s5 hk (by omega)), nI_clamp (by omega), if_neg (sn.2.2 i hi), s2, br_s, ck_t (inb_nI s4 hk (by omega)), (s6 k hk).1, br_s, ck_t (inb_nI (s6 k hk).2 (by omega) (by omega)), nI_clamp (by omega), lt_d, nI_1]
        rfl
    rw [fX7_digestFrom_5, ck_t (sh_t s1), s3, br_s, len_s s5 (by omega), bi_s, if_neg (nI_ge hk (by omega)), ck_t (inb_nI s5 hk (by omega)), nI_clamp (by omega), lt_d, ef]
    exact A _
theorem m_dgG (V : MV h T E) {i m : Nat} (hi : i < T.2.1) (x : Int64) : fX9_digest_74 (fun z0 z1 z2 zh => fX9_digest_63 m z0 z1 z2 zh) gz_fu 85 x (nI i) (0 : Int32) h = fX9_digest_63 m 85 (dfL (fun k => nI ((E i).1.getD k 0)) (dfL (gA T E i) x 7) (E i).1.length) (nI (i + 1)) h := by
  have H := V.H
  have b := V.b
  have bi := V.bi i hi
  have hfu7 : 7 < 0 + gz_fu := by show 7 < 0 + 100000; omega
  have hfu8 : (E i).1.length < 0 + gz_fu := by show (E i).1.length < 0 + 100000; omega
  have mn : h.2.1 86 (2 + i) = nI (E i).1.length := V.mn i hi
  have g2 : (2 : Int32) + nI i = nI (2 + i) := by rw [show (2 : Int32) = nI 2 from rfl, nI_add]
  generalize ef : gz_fu = fu at hfu7 hfu8
  refine lp (fun n k (y : Int64) => fX9_digest_74 (fun z0 z1 z2 zh => fX9_digest_63 m z0 z1 z2 zh) n 85 y (nI i) (nI k) h) (fun k => dfL (gA T E i) x k) 7 _ ?_ ?_ fu 0 (by omega) hfu7
  · intro n
    rw [fX9_digest_74, if_pos (by decide), ef]
    refine lp (fun n k (y : Int64) => fX9_digest_105 (fun z0 z1 z2 zh => fX9_digest_63 m z0 z1 z2 zh) n 85 y (nI i) (nI k) h) (fun k => dfL (fun k => nI ((E i).1.getD k 0)) (dfL (gA T E i) x 7) k) (E i).1.length _ ?_ ?_ fu 0 (by omega) hfu8
    · intro n
      rw [fX9_digest_105, ck_t (sh_85 H), rf_85_0 H, br_s, g2, ck_t (in_86 H (by omega)), nI_clamp (by omega), mn, if_pos (nI_le (Nat.le_refl _) (by omega)), nI_1]
    · intro n k hk
      rw [fX9_digest_105, ck_t (sh_85 H), rf_85_0 H, br_s, g2, ck_t (in_86 H (by omega)), nI_clamp (by omega), mn, if_neg (nI_ge hk (by omega)), m_factOf V hi hk, b2_s, nI_1]
      rfl
  · intro n k hk
    rw [fX9_digest_74, if_neg (show ¬ (7 : Int32) ≤ nI k from nI_ge hk (by decide)), ck_t (sh_85 H), m_toldOf V hi hk, b2_s, nI_1]
    rfl
end
section
variable {h : gz_H}
theorem m_dgR (I : gz_In h) (x : Int64) : fX9_digest_180 gz_fu 85 x (0 : Int32) h = fX9_digest_248 gz_fu 85 (dgS (fun k => h.2.1 9 k) (fun k i => h.2.1 (3 + k) i) x 6) (0 : Int32) h := by
  have H := I.1
  have Rw := I.2.2.1
  have hfu1 : 6 < 0 + gz_fu := by show 6 < 0 + 100000; omega
  have hfu2 : ∀ k, k < 6 → snN (h.2.1 9 k) < 0 + gz_fu := fun k hk => by
    have := (sn_le (g := 40) (by omega) (Rw k hk).2.1).1
    show snN (h.2.1 9 k) < 0 + 100000; omega
  generalize ef : gz_fu = fu at hfu1 hfu2
  refine lp (fun m k (y : Int64) => fX9_digest_180 m 85 y (nI k) h) (fun k => dgS (fun k => h.2.1 9 k) (fun k i => h.2.1 (3 + k) i) x k) 6 _ ?_ ?_ fu 0 (by omega) hfu1
  · intro m
    rw [fX9_digest_180, if_pos (by decide), ef]
  · intro m k hk
    obtain ⟨r1, r2, r3⟩ := Rw k hk
    have sn := sn_le (g := 40) (by omega) r2
    have A : ∀ y : Int64, fX9_digest_203 (fun z0 z1 z2 zh => fX9_digest_180 m z0 z1 z2 zh) fu 85 y (nI k) (nI 0) h = fX9_digest_180 m 85 (dfL (fun i => h.2.1 (3 + k) i) y (snN (h.2.1 9 k))) (nI (k + 1)) h := by
      intro y
      refine lp (fun n i (y : Int64) => fX9_digest_203 (fun z0 z1 z2 zh => fX9_digest_180 m z0 z1 z2 zh) n 85 y (nI k) (nI i) h) (fun i => dfL (fun i => h.2.1 (3 + k) i) y i) (snN (h.2.1 9 k)) _ ?_ ?_ fu 0 (by omega) (hfu2 k hk)
      · intro n
        rw [fX9_digest_203, ck_t (sh_85 H), rf_85_7 H, br_s, ck_t (in_91 H hk), nI_clamp (by omega), ← r1, if_pos sn.2.1, nI_1]
      · intro n i hi
        rw [fX9_digest_203, ck_t (sh_85 H), rf_85_7 H, br_s, ck_t (in_91 H hk), nI_clamp (by omega), ← r1, if_neg (sn.2.2 i hi), rf_85_8 H, br_s, show (40 : Int32) = nI 40 from rfl, n_mul, ck_t (in_92 H (by omega)), nI_clamp (by omega), ← r3 i (by omega), lt_d, nI_1]
        rfl
    rw [fX9_digest_180, if_neg (show ¬ (6 : Int32) ≤ nI k from nI_ge hk (by decide)), ck_t (sh_85 H), rf_85_7 H, br_s, ck_t (in_91 H hk), nI_clamp (by omega), ← r1, lt_d, ef]
    exact A _
theorem m_dgT (I : gz_In h) (x : Int64) : fX9_digest_248 gz_fu 85 x (0 : Int32) h = some (dgS (fun k => h.2.1 16 k) (fun k i => h.2.1 (12 + k) i) x 4, h) := by
  have H := I.1
  have Tx := I.2.2.2.1
  have hfu1 : 4 < 0 + gz_fu := by show 4 < 0 + 100000; omega
  have hfu2 : ∀ k, k < 4 → snN (h.2.1 16 k) < 0 + gz_fu := fun k hk => by
    have := (sn_le (g := 80) (by omega) (Tx k hk).2.1).1
    show snN (h.2.1 16 k) < 0 + 100000; omega
  generalize ef : gz_fu = fu at hfu1 hfu2
  refine lp (fun m k (y : Int64) => fX9_digest_248 m 85 y (nI k) h) (fun k => dgS (fun k => h.2.1 16 k) (fun k i => h.2.1 (12 + k) i) x k) 4 _ ?_ ?_ fu 0 (by omega) hfu1
  · intro m
    rw [fX9_digest_248, if_pos (by decide)]
  · intro m k hk
    obtain ⟨r1, r2, r3⟩ := Tx k hk
    have sn := sn_le (g := 80) (by omega) r2
    have A : ∀ y : Int64, fX9_digest_270 (fun z0 z1 z2 zh => fX9_digest_248 m z0 z1 z2 zh) fu 85 y (nI k) (nI 0) h = fX9_digest_248 m 85 (dfL (fun i => h.2.1 (12 + k) i) y (snN (h.2.1 16 k))) (nI (k + 1)) h := by
      intro y
      refine lp (fun n i (y : Int64) => fX9_digest_270 (fun z0 z1 z2 zh => fX9_digest_248 m z0 z1 z2 zh) n 85 y (nI k) (nI i) h) (fun i => dfL (fun i => h.2.1 (12 + k) i) y i) (snN (h.2.1 16 k)) _ ?_ ?_ fu 0 (by omega) (hfu2 k hk)
      · intro n
        rw [fX9_digest_270, ck_t (sh_85 H), rf_85_9 H, br_s, ck_t (in_93 H hk), nI_clamp (by omega), ← r1, if_pos sn.2.1, nI_1]
      · intro n i hi
        rw [fX9_digest_270, ck_t (sh_85 H), rf_85_9 H, br_s, ck_t (in_93 H hk), nI_clamp (by omega), ← r1, if_neg (sn.2.2 i hi), rf_85_10 H, br_s, show (80 : Int32) = nI 80 from rfl, n_mul, ck_t (in_94 H (by omega)), nI_clamp (by omega), ← r3 i (by omega), lt_d, nI_1]
        rfl
    rw [fX9_digest_248, if_neg (show ¬ (4 : Int32) ≤ nI k from nI_ge hk (by decide)), ck_t (sh_85 H), rf_85_9 H, br_s, ck_t (in_93 H hk), nI_clamp (by omega), ← r1, lt_d, ef]
    exact A _
theorem op_digest (I : gz_Iv h) : gz_ag (fX8_digest 0) (fX9_digest 85) h gz_Iv := by
  obtain ⟨T, D, ds, ks, sa, F⟩ := I.2
  have V := F.xv I.1.1
  have W := F.mv I.1.1
  have H := V.H
  have b := V.b
  have Sr := H.rows I.1.2.1
  have St := H.texts I.1.2.1
  obtain ⟨ct, hct⟩ : ∃ ct : Nat → Int32, ∀ w, w < 9 → fX8_countOf 0 (nI w) h = some (ct w, h) ∧ fX9_countOf 85 (nI w) h = some (ct w, h) := by
    refine ⟨fun w => if hw : w < 9 then Classical.choose (ct_both I hw) else 0, fun w hw => ?_⟩
    show fX8_countOf 0 (nI w) h = some ((if hw : w < 9 then Classical.choose (ct_both I hw) else 0), h) ∧ fX9_countOf 85 (nI w) h = some ((if hw : w < 9 then Classical.choose (ct_both I hw) else 0), h)
    rw [dif_pos hw]
    exact Classical.choose_spec (ct_both I hw)
  have kk : ∀ k, k < 3 → h.2.1 (79 + 2 * k) 1 = h.2.1 86 (2256 * (k + 1)) := fun k hk => by
    have x := F.2.2.1.2.2.2 k hk
    have m := F.2.2.2.2.2 k hk
    unfold xk at x
    unfold mk at m
    cases hks : ks k with
    | none =>
      rw [hks] at x m
      exact Eq.trans x (Eq.symm m)
    | some es =>
      rw [hks] at x m
      exact Eq.trans x.1 (Eq.symm m.1)
  have hfu9 : 9 < 0 + gz_fu := by show 9 < 0 + 100000; omega
  have hfu3 : 3 < 0 + gz_fu := by show 3 < 0 + 100000; omega
  have hfuF : T.1 < 0 + gz_fu := by show T.1 < 0 + 100000; omega
  have hfuG : T.2.1 < 0 + gz_fu := by show T.2.1 < 0 + 100000; omega
  have X2 : ∀ x : Int64, fX8_digest_42 gz_fu 0 x (0 : Int32) h = some (dgS (fun k => h.2.1 16 k) (fun k i => h.2.1 (12 + k) i) (dgS (fun k => h.2.1 9 k) (fun k i => h.2.1 (3 + k) i) (dfL (fun k => h.2.1 (79 + 2 * k) 1) x 3) 6) 4, h) := by
    intro x
    generalize gz_fu = fu at hfu3
    refine lp (fun m k (y : Int64) => fX8_digest_42 m 0 y (nI k) h) (fun k => dfL (fun k => h.2.1 (79 + 2 * k) 1) x k) 3 _ ?_ ?_ fu 0 (by omega) hfu3
    · intro m
      rw [fX8_digest_42, if_pos (by decide), ck_t (sh_0 H), rf_0_1 H, br_s, rf_0_0 H, br_s, ck_t (sh_1 H), x_dgS Sr (fun k hk => (I.1.2.2.1 k hk).2.1), b2_s, ck_t (sh_10 H), x_dgS St (fun k hk => (I.1.2.2.2.1 k hk).2.1), b2_s]
    · intro m k hk
      rw [fX8_digest_42, if_neg (show ¬ (3 : Int32) ≤ nI k from nI_ge hk (by decide)), ck_t (sh_0 H), rf_0_8 H, br_s, ck_t (in_27 H hk), nI_clamp (by omega), rf_27 H hk, br_s, ck_t (slk_79 H hk), nI_1]
      rfl
  have M2 : ∀ x : Int64, fX9_digest_147 gz_fu 85 x (1 : Int32) h = some (dgS (fun k => h.2.1 16 k) (fun k i => h.2.1 (12 + k) i) (dgS (fun k => h.2.1 9 k) (fun k i => h.2.1 (3 + k) i) (dfL (fun k => h.2.1 (79 + 2 * k) 1) x 3) 6) 4, h) := by
    intro x
    have r := m_dgR I.1
    have t := m_dgT I.1
    generalize ef : gz_fu = fu at hfu3
    refine lp (fun m k (y : Int64) => fX9_digest_147 m 85 y (nI (1 + k)) h) (fun k => dfL (fun k => h.2.1 (79 + 2 * k) 1) x k) 3 _ ?_ ?_ fu 0 (by omega) hfu3
    · intro m
      rw [fX9_digest_147, if_pos (by decide), r, t]
    · intro m k hk
      have ek : (2256 : Int32) * nI (1 + k) + (0 : Int32) = nI (2256 * (k + 1)) := by rw [show (2256 : Int32) = nI 2256 from rfl, show (0 : Int32) = nI 0 from rfl, n_mul]; exact congrArg nI (by omega)
      rw [fX9_digest_147, if_neg (show ¬ (4 : Int32) ≤ nI (1 + k) from nI_ge (b := 4) (by omega) (by decide)), ck_t (sh_85 H), rf_85_0 H, br_s, ek, ck_t (in_86 H (by omega)), nI_clamp (by omega), ← kk k hk, lt_d, nI_1]
      rfl
  have X1 : fX8_digest 0 h = fX8_digest_42 gz_fu 0 (dgG T (rn T D ds) (dfL (fun k => nI (T.2.2.1 k)) (dfL ct 17 9) T.1) T.2.1) (0 : Int32) h := by
    unfold fX8_digest fX8_digest_0
    generalize ef : gz_fu = fu at hfu9
    refine lp (fun m k (y : Int64) => fX8_digest_6 m 0 y (nI k) h) (fun k => dfL ct 17 k) 9 _ ?_ ?_ fu 0 (by omega) hfu9
    · intro m
      rw [fX8_digest_6, if_pos (by decide), ck_t (sh_0 H), rf_0_9 H, br_s, ck_t (sh_28 H), x_dgF V, b2_s, ef]
    · intro m k hk
      rw [fX8_digest_6, if_neg (show ¬ (9 : Int32) ≤ nI k from nI_ge hk (by decide)), ck_t (sh_0 H), (hct k hk).1, b2_s, nI_1]
      rfl
  have M1 : fX9_digest 85 h = fX9_digest_33 gz_fu 85 (dfL ct 17 9) (0 : Int32) h := by
    unfold fX9_digest fX9_digest_0
    generalize ef : gz_fu = fu at hfu9
    refine lp (fun m k (y : Int64) => fX9_digest_6 m 85 y (nI k) h) (fun k => dfL ct 17 k) 9 _ ?_ ?_ fu 0 (by omega) hfu9
    · intro m
      rw [fX9_digest_6, if_pos (by decide), ef]
    · intro m k hk
      rw [fX9_digest_6, if_neg (show ¬ (9 : Int32) ≤ nI k from nI_ge hk (by decide)), ck_t (sh_85 H), (hct k hk).2, b2_s, nI_1]
      rfl
  have M3 : ∀ x : Int64, fX9_digest_33 gz_fu 85 x (0 : Int32) h = fX9_digest_63 gz_fu 85 (dfL (fun k => nI (T.2.2.1 k)) x T.1) (0 : Int32) h := by
    intro x
    generalize ef : gz_fu = fu at hfuF
    refine lp (fun m k (y : Int64) => fX9_digest_33 m 85 y (nI k) h) (fun k => dfL (fun k => nI (T.2.2.1 k)) x k) T.1 _ ?_ ?_ fu 0 (by omega) hfuF
    · intro m
      rw [fX9_digest_33, ck_t (sh_85 H), W.f, if_pos (nI_le (Nat.le_refl _) (by omega)), ef]
    · intro m k hk
      have ep : h.2.1 87 k = nI (T.2.2.1 k) := W.2.2.2.1.2.2.1 k hk
      rw [fX9_digest_33, ck_t (sh_85 H), W.f, if_neg (nI_ge hk (by omega)), rf_85_2 H, br_s, ck_t (in_87 H (by omega)), nI_clamp (by omega), ep, lt_d, nI_1]
      rfl
  have M4 : ∀ x : Int64, fX9_digest_63 gz_fu 85 x (0 : Int32) h = fX9_digest_147 gz_fu 85 (dgG T (rn T D ds) x T.2.1) (1 : Int32) h := by
    intro x
    have g := fun (i m : Nat) (hi : i < T.2.1) (y : Int64) => m_dgG W (m := m) hi y
    generalize ef : gz_fu = fu at hfuG
    refine lp (fun m k (y : Int64) => fX9_digest_63 m 85 y (nI k) h) (fun k => dgG T (rn T D ds) x k) T.2.1 _ ?_ ?_ fu 0 (by omega) hfuG
    · intro m
      rw [fX9_digest_63, ck_t (sh_85 H), W.n, if_pos (nI_le (Nat.le_refl _) (by omega)), ef]
    · intro m k hk
      rw [fX9_digest_63, ck_t (sh_85 H), W.n, if_neg (nI_ge hk (by omega)), g k m hk]
      rfl
  exact ⟨_, h, h, X1.trans (X2 _), H.1, M1.trans ((M3 _).trans ((M4 _).trans (M2 _))), I⟩
end
