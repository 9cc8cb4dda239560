/-! PURE: fault, flock agree -/
theorem xvL {h h' : gz_H} {fa : Nat} {T : gz_T} {D : gz_D} (x : xv h fa T D) (hG : T.2.1 ≤ 6) (H' : gz_La h') (hf : fa = 28 ∨ fa = 43 ∨ fa = 58) (e : ∀ a k, fa ≤ a → a ≤ fa + 14 → h'.2.1 a k = h.2.1 a k) : xv h' fa T D := by
  obtain ⟨a1, a2, a3, a4⟩ := x
  have S := H'.fsh hf
  refine ⟨by rw [e fa 2 (by omega) (by omega)]; exact a1, by rw [e fa 3 (by omega) (by omega)]; exact a2, fun k hk => by rw [e (fa + 1) k (by omega) (by omega)]; exact a3 k hk, fun i hi => ?_⟩
  obtain ⟨⟨g1, g2, g3, g4, g5, g6⟩, b2, b3, b4, b5⟩ := a4 i hi
  have sg := S.2.2.2.2.2 i (by omega)
  have eg : ∀ k, h'.2.1 (fa + 3 + 2 * i) k = h.2.1 (fa + 3 + 2 * i) k := fun k => e _ k (by omega) (by omega)
  exact ⟨⟨sg.2.1, sg.2.2.1, sg.2.2.2, g4, by rw [eg]; exact g5, fun k hk => by rw [e _ k (by omega) (by omega)]; exact g6 k hk⟩, by rw [eg]; exact b2, by rw [eg]; exact b3, by rw [eg]; exact b4, by rw [eg]; exact b5⟩
section
variable {h h1 h2 q : gz_H}
theorem iv_rd {T : gz_T} {D : gz_D} {ds : List gz_De} {ks : Nat → Option (List gz_De)} {sa : Nat} (I : gz_Iv h) (F : gz_Fv h T D ds ks sa) (a : CF h h1 (101 - sa)) (b : MF h1 h2) : gz_Iv h2 := by
  obtain ⟨⟨H, Fx, Rw, Tx, Sc⟩, _⟩ := I
  obtain ⟨⟨w, wD, al, gl0, gk⟩, ⟨s1, s2, s3⟩, ⟨x1, x2, x3, x4⟩, ⟨m1, m2, m3⟩⟩ := F
  have e1 : h2.1 = h.1 := b.1.trans a.1
  have r22 : h2.2.2.2 = h1.2.2.2 := congrArg Prod.snd b.2.1
  have rr : ∀ x k, x ≠ 17 → h2.2.2.2 x k = h.2.2.2 x k := fun x k z => by rw [r22]; exact a.2.2.1 x k z
  have lg : h2.2.2.1 = h.2.2.1 := (congrArg Prod.fst b.2.1).trans a.2.1
  have o : ∀ x k, x ≠ 17 → ¬ (101 - sa ≤ x ∧ x ≤ 101 - sa + 14) → ¬ mfc x k → h2.2.1 x k = h.2.1 x k := fun x k z1 z2 z3 => by rw [b.2.2 x k z3, a.2.2.2 x k z1 z2]
  unfold mfc at o
  have H2 : gz_La h2 := La_of2 H e1 (fun x k z _ => rr x k z)
  have e86 : ∀ k, h2.2.1 86 k = h.2.1 86 k := fun k => o 86 k (by omega) (by omega) (by omega)
  refine ⟨⟨H2, Fx.cg (fun a k q => o a k (by omega) (by omega) (by omega)), Rw.cg (fun a k q => o a k (by omega) (by omega) (by omega)), Tx.cg (fun a k q => o a k (by omega) (by omega) (by omega)), Sc.cg (fun a k q => o a k (by omega) (by omega) (by omega)) lg⟩, T, D, ds, ks, sa, ⟨w, wD, al, gl0, gk⟩, ⟨s1, by rw [rr _ _ (by omega)]; exact s2, by rw [rr _ _ (by omega)]; exact s3⟩, ⟨xvL x1 w.2.1 H2 (by omega) (fun a k q1 q2 => o a k (by omega) (by omega) (by omega)), xvL x2 w.2.1 H2 (by omega) (fun a k q1 q2 => o a k (by omega) (by omega) (by omega)), x3.cg (fun a k q1 q2 => o a k (by omega) (by omega) (by omega)), fun k hk => ?_⟩, ⟨⟨by rw [o 85 1 (by omega) (by omega) (by omega)]; exact m1.1, by rw [o 85 3 (by omega) (by omega) (by omega)]; exact m1.2.1, fun k hk => by rw [o 87 k (by omega) (by omega) (by omega)]; exact m1.2.2.1 k hk, fun i hi => by rw [o 88 i (by omega) (by omega) (by omega), o 89 i (by omega) (by omega) (by omega), o 90 i (by omega) (by omega) (by omega)]; exact m1.2.2.2 i hi⟩, m2.cg e86, fun k hk => ?_⟩⟩
  · have := x4 k hk
    unfold xk at this ⊢
    cases hks : ks k with
    | none =>
      rw [hks] at this
      show h2.2.1 (79 + 2 * k) 1 = -1
      rw [o _ _ (by omega) (by omega) (by omega)]
      exact this
    | some es =>
      rw [hks] at this
      exact lgv.cg this (fun a j q1 q2 => o a j (by omega) (by omega) (by omega))
  · have := m3 k hk
    unfold mk at this ⊢
    cases hks : ks k with
    | none =>
      rw [hks] at this
      show h2.2.1 86 _ = -1
      rw [e86]
      exact this
    | some es =>
      rw [hks] at this
      exact mb.cg this e86
theorem x_fl0 (I : gz_In h) {t n dr : Nat} (ht : t < 4) (hn : n ≤ 80) (e : h.2.1 16 t = nI n) (r : h.2.2.2 0 11 = some dr) : fX8_fault 0 (nI t) h = gz_b2 (fX5_readFlock 17 (12 + t) (nI n) dr h) (fun y_24 h_23 => some (y_24, h_23)) := by
  have H := I.1
  have S := H.texts I.2.1
  unfold fX8_fault fX8_fault_0
  rw [ck_t (sh_0 H), rf_0_1 H, br_s, ck_t (sh_10 H), p_knows_in S ht, b2_s, if_neg (by decide), ck_t (sh_0 H), rf_0_1 H, br_s, ck_t (sh_10 H), p_has1 S ht (by rw [e]; exact n_ne n (by omega)), b2_s, if_neg (by decide), ck_t (sh_0 H), rf_0_2 H, br_s, rf_0_1 H, br_s, ck_t (sh_10 H), rf_10_1 H, br_s, ck_t (in_11 H ht), nI_clamp (by omega), rf_11 H ht, br_s, rf_10_2 H, br_s, ck_t (in_16 H ht), r, br_s, ck_t (sh_17 H), e]
theorem op_fault (I : gz_Iv h) (x1 : Int32) : gz_ag (fX8_fault 0 x1) (fX9_fault 85 x1) h gz_Iv := by
  obtain ⟨T, D, ds, ks, sa, F⟩ := I.2
  have H := I.1.1
  have S := H.texts I.1.2.1
  rcases p_cases x1 4 (by omega) with hx | ⟨t, ht, rfl⟩
  · refine ag_no I (y := -1) ?_ ?_
    · unfold fX8_fault fX8_fault_0
      rw [ck_t (sh_0 H), rf_0_1 H, br_s, ck_t (sh_10 H), p_knows_out S hx, b2_s, if_pos (by decide)]
    · unfold fX9_fault fX9_fault_0
      rw [p_isText_out hx, b2_s, if_pos (by decide)]
  obtain ⟨t1, t2, t3⟩ := I.1.2.2.2.1 t ht
  rcases t2 with e | ⟨n, hn, e⟩
  · refine ag_iv I (st_findE I.1 (f := 1) (by decide) ?_ ?_)
    · unfold fX8_fault fX8_fault_0
      rw [ck_t (sh_0 H), rf_0_1 H, br_s, ck_t (sh_10 H), p_knows_in S ht, b2_s, if_neg (by decide), ck_t (sh_0 H), rf_0_1 H, br_s, ck_t (sh_10 H), p_has0 S ht e, b2_s, if_pos (by decide), ck_t (sh_0 H), rf_0_3 H, br_s, ck_t (sh_18 H), show (1 : Int32) = nI 1 from rfl, p_answer H (by decide), b2_s]
    · have H1 := gz_xf_La (f := 1) H
      have e1 : (gz_xf h 1).2.1 93 t = -1 := by rw [gz_xf_I 93 t (by decide) (by decide), ← t1]; exact e
      unfold fX9_fault fX9_fault_0
      rw [p_isText_in ht, b2_s, if_neg (by decide), ck_t (sh_85 H1), rf_85_9 H1, br_s, ck_t (in_93 H1 ht), nI_clamp (by omega), e1, if_neg (by decide), show (1 : Int32) = nI 1 from rfl, p_find H1 (by decide), b2_s]
  · have hsa := F.2.1.1
    obtain ⟨h1, e1, C1, H1, _⟩ := x_read (c := fun k => h.2.1 (12 + t) k) (dr := 101 - sa) H ht hn (by omega) (fun k hk => rfl)
    have z93 : h1.2.1 93 t = nI n := by rw [C1.2.2.2 93 t (by omega) (by omega), ← t1]; exact e
    obtain ⟨h2, e2, C2, H2, _⟩ := m_read (c := fun k => h.2.1 (12 + t) k) H1 ht hn z93 (fun k hk => by rw [C1.2.2.2 94 _ (by omega) (by omega), ← t3 k (by omega)])
    refine ⟨rdA (rdN (fun k => h.2.1 (12 + t) k) n), h1, h2, ?_, H1.1, ?_, iv_rd I F C1 C2⟩
    · rw [x_fl0 I.1 ht hn e F.2.1.2.2, e1, b2_s]
    · unfold fX9_fault fX9_fault_0
      rw [p_isText_in ht, b2_s, if_neg (by decide), ck_t (sh_85 H1), rf_85_9 H1, br_s, ck_t (in_93 H1 ht), nI_clamp (by omega), z93, if_pos (nI_pos' (by omega)), e2, b2_s]
/-! the reference takes over what was read -/
theorem m_fl55 (H : gz_La q) {F : Nat} (hF : F ≤ 8) (e1 : q.2.1 85 1 = nI F) : ∃ q', fX9_flock_55 gz_fu 85 (0 : Int32) q = fX9_flock_83 gz_fu 85 (0 : Int32) q' ∧ q'.1 = q.1 ∧ q'.2.2 = q.2.2 ∧ (∀ a k, a ≠ 87 → q'.2.1 a k = q.2.1 a k) ∧ ∀ k, k < F → q'.2.1 87 k = q.2.1 96 k := by
  have hfu : F < 0 + gz_fu := by show F < 0 + 100000; omega
  generalize ef : gz_fu = fu at hfu
  refine lpr (fun m k (s : gz_H) => fX9_flock_55 m 85 (nI k) s) (fun k s => s.1 = q.1 ∧ s.2.2 = q.2.2 ∧ (∀ a j, a ≠ 87 → s.2.1 a j = q.2.1 a j) ∧ ∀ j, j < k → s.2.1 87 j = q.2.1 96 j) F (fun r => ∃ q', r = fX9_flock_83 fu 85 (0 : Int32) q' ∧ q'.1 = q.1 ∧ q'.2.2 = q.2.2 ∧ (∀ a k, a ≠ 87 → q'.2.1 a k = q.2.1 a k) ∧ ∀ k, k < F → q'.2.1 87 k = q.2.1 96 k) ?_ ?_ fu 0 q (by omega) hfu ⟨rfl, rfl, fun _ _ _ => rfl, fun j hj => absurd hj (by omega)⟩
  · rintro m s ⟨s1, s2, s3, s4⟩
    have Hs : gz_La s := H.of s1 (congrArg Prod.snd s2)
    refine ⟨s, ?_, s1, s2, s3, s4⟩
    rw [fX9_flock_55, ck_t (sh_85 Hs), s3 85 1 (by omega), e1, if_pos (nI_le (Nat.le_refl _) (by omega)), ef]
  · rintro m k s hk ⟨s1, s2, s3, s4⟩
    have Hs : gz_La s := H.of s1 (congrArg Prod.snd s2)
    refine ⟨uI s 87 k (q.2.1 96 k), ⟨s1, s2, fun a j z => by rw [uI_ne (by omega)]; exact s3 a j z, fun j hj => ?_⟩, ?_⟩
    · by_cases c : j = k
      · rw [c, uI_at]
      · rw [uI_ne (by omega)]; exact s4 j (by omega)
    · rw [fX9_flock_55, ck_t (sh_85 Hs), s3 85 1 (by omega), e1, if_neg (nI_ge hk (by omega)), rf_85_2 Hs, br_s, rf_85_19 Hs, br_s, ck_t (in_96 Hs (by omega)), ck_t (in_87 Hs (by omega)), nI_clamp (by omega), s3 96 k (by omega), lt_d, nI_1]
theorem m_fl83 (H : gz_La q) : ∃ q', fX9_flock_83 gz_fu 85 (0 : Int32) q = fX9_flock_105 gz_fu 85 (0 : Int32) q' ∧ q'.1 = q.1 ∧ q'.2.2 = q.2.2 ∧ (∀ a k, a ≠ 86 → q'.2.1 a k = q.2.1 a k) ∧ ∀ k, k < 2256 → q'.2.1 86 k = 0 := by
  have hfu : 2256 < 0 + gz_fu := by show 2256 < 0 + 100000; omega
  generalize ef : gz_fu = fu at hfu
  refine lpr (fun m k (s : gz_H) => fX9_flock_83 m 85 (nI k) s) (fun k s => s.1 = q.1 ∧ s.2.2 = q.2.2 ∧ (∀ a j, a ≠ 86 → s.2.1 a j = q.2.1 a j) ∧ ∀ j, j < k → s.2.1 86 j = 0) 2256 (fun r => ∃ q', r = fX9_flock_105 fu 85 (0 : Int32) q' ∧ q'.1 = q.1 ∧ q'.2.2 = q.2.2 ∧ (∀ a k, a ≠ 86 → q'.2.1 a k = q.2.1 a k) ∧ ∀ k, k < 2256 → q'.2.1 86 k = 0) ?_ ?_ fu 0 q (by omega) hfu ⟨rfl, rfl, fun _ _ _ => rfl, fun j hj => absurd hj (by omega)⟩
  · rintro m s ⟨s1, s2, s3, s4⟩
    refine ⟨s, ?_, s1, s2, s3, s4⟩
    rw [fX9_flock_83, if_pos (by decide), ef]
  · rintro m k s hk ⟨s1, s2, s3, s4⟩
    have Hs : gz_La s := H.of s1 (congrArg Prod.snd s2)
    refine ⟨uI s 86 k 0, ⟨s1, s2, fun a j z => by rw [uI_ne (by omega)]; exact s3 a j z, fun j hj => ?_⟩, ?_⟩
    · by_cases c : j = k
      · rw [c, uI_at]
      · rw [uI_ne (by omega)]; exact s4 j (by omega)
    · rw [fX9_flock_83, if_neg (show ¬ (2256 : Int32) ≤ nI k from nI_ge hk (by decide)), ck_t (sh_85 Hs), rf_85_0 Hs, br_s, ck_t (in_86 Hs (by omega)), nI_clamp (by omega), lt_d, nI_1]
theorem m_fl175 (H : gz_La q) {i n : Nat} (hi : i < 6) (hn : n ≤ 8) (e98 : q.2.1 98 i = nI n) (kk : Nat → Int32 → gz_H → Option (Int32 × gz_H)) : ∃ q', fX9_flock_175 kk gz_fu 85 (nI i) (0 : Int32) q = kk 85 (nI (i + 1)) q' ∧ q'.1 = q.1 ∧ q'.2.2 = q.2.2 ∧ (∀ a k, a ≠ 86 ∨ k < 8 + 8 * i ∨ 8 + 8 * i + n ≤ k → q'.2.1 a k = q.2.1 a k) ∧ ∀ k, k < n → q'.2.1 86 (8 + 8 * i + k) = q.2.1 99 (8 * i + k) := by
  have hfu : n < 0 + gz_fu := by show n < 0 + 100000; omega
  generalize ef : gz_fu = fu at hfu
  refine lpr (fun m k (s : gz_H) => fX9_flock_175 kk m 85 (nI i) (nI k) s) (fun k s => s.1 = q.1 ∧ s.2.2 = q.2.2 ∧ (∀ a j, a ≠ 86 ∨ j < 8 + 8 * i ∨ 8 + 8 * i + n ≤ j → s.2.1 a j = q.2.1 a j) ∧ ∀ j, j < k → s.2.1 86 (8 + 8 * i + j) = q.2.1 99 (8 * i + j)) n (fun r => ∃ q', r = kk 85 (nI (i + 1)) q' ∧ q'.1 = q.1 ∧ q'.2.2 = q.2.2 ∧ (∀ a k, a ≠ 86 ∨ k < 8 + 8 * i ∨ 8 + 8 * i + n ≤ k → q'.2.1 a k = q.2.1 a k) ∧ ∀ k, k < n → q'.2.1 86 (8 + 8 * i + k) = q.2.1 99 (8 * i + k)) ?_ ?_ fu 0 q (by omega) hfu ⟨rfl, rfl, fun _ _ _ => rfl, fun j hj => absurd hj (by omega)⟩
  · rintro m s ⟨s1, s2, s3, s4⟩
    have Hs : gz_La s := H.of s1 (congrArg Prod.snd s2)
    refine ⟨s, ?_, s1, s2, s3, s4⟩
    rw [fX9_flock_175, ck_t (sh_85 Hs), rf_85_22 Hs, br_s, ck_t (in_98 Hs hi), nI_clamp (by omega), s3 98 i (by omega), e98, if_pos (nI_le (Nat.le_refl _) (by omega)), nI_1]
  · rintro m k s hk ⟨s1, s2, s3, s4⟩
    have Hs : gz_La s := H.of s1 (congrArg Prod.snd s2)
    have e8 : (8 : Int32) + (8 : Int32) * nI i + nI k = nI (8 + 8 * i + k) := by rw [show (8 : Int32) = nI 8 from rfl, pk_mul, nI_add, nI_add]
    have e9 : (8 : Int32) * nI i + nI k = nI (8 * i + k) := by rw [show (8 : Int32) = nI 8 from rfl, n_mul]
    refine ⟨uI s 86 (8 + 8 * i + k) (q.2.1 99 (8 * i + k)), ⟨s1, s2, fun a j z => by rw [uI_ne (by omega)]; exact s3 a j z, fun j hj => ?_⟩, ?_⟩
    · by_cases c : j = k
      · rw [c, uI_at]
      · rw [uI_ne (by omega)]; exact s4 j (by omega)
    · rw [fX9_flock_175, ck_t (sh_85 Hs), rf_85_22 Hs, br_s, ck_t (in_98 Hs hi), nI_clamp (by omega), s3 98 i (by omega), e98, if_neg (nI_ge hk (by omega)), rf_85_0 Hs, br_s, rf_85_23 Hs, br_s, e8, e9, ck_t (in_99 Hs (by omega)), ck_t (in_86 Hs (by omega)), nI_clamp (by omega), nI_clamp (by omega), s3 99 _ (by omega), lt_d, nI_1]
/-- a goose is taken over -/
def tkn (q s : gz_H) (i : Nat) : Prop := s.2.1 88 i = q.2.1 97 (3 * i) ∧ s.2.1 89 i = q.2.1 97 (3 * i + 1) ∧ s.2.1 90 i = q.2.1 97 (3 * i + 2) ∧ s.2.1 86 (2 + i) = q.2.1 98 i ∧ ∀ n k, q.2.1 98 i = nI n → n ≤ 8 → k < n → s.2.1 86 (8 + 8 * i + k) = q.2.1 99 (8 * i + k)
theorem m_fl105 (H : gz_La q) {G : Nat} (hG : G ≤ 6) (e3 : q.2.1 85 3 = nI G) (hn : ∀ i, i < G → ∃ n, n ≤ 8 ∧ q.2.1 98 i = nI n) : ∃ q', fX9_flock_105 gz_fu 85 (0 : Int32) q = fX9_flock_224 gz_fu 85 (1 : Int32) q' ∧ q'.1 = q.1 ∧ q'.2.2 = q.2.2 ∧ (∀ a k, a ≠ 86 → a ≠ 88 → a ≠ 89 → a ≠ 90 → q'.2.1 a k = q.2.1 a k) ∧ (∀ k, k < 2 ∨ 56 ≤ k → q'.2.1 86 k = q.2.1 86 k) ∧ ∀ i, i < G → tkn q q' i := by
  have hfu : G < 0 + gz_fu := by show G < 0 + 100000; omega
  generalize ef : gz_fu = fu at hfu
  refine lpr (fun m i (s : gz_H) => fX9_flock_105 m 85 (nI i) s) (fun i s => s.1 = q.1 ∧ s.2.2 = q.2.2 ∧ (∀ a j, a ≠ 86 → a ≠ 88 → a ≠ 89 → a ≠ 90 → s.2.1 a j = q.2.1 a j) ∧ (∀ k, k < 2 ∨ 56 ≤ k → s.2.1 86 k = q.2.1 86 k) ∧ ∀ j, j < i → tkn q s j) G (fun r => ∃ q', r = fX9_flock_224 fu 85 (1 : Int32) q' ∧ q'.1 = q.1 ∧ q'.2.2 = q.2.2 ∧ (∀ a k, a ≠ 86 → a ≠ 88 → a ≠ 89 → a ≠ 90 → q'.2.1 a k = q.2.1 a k) ∧ (∀ k, k < 2 ∨ 56 ≤ k → q'.2.1 86 k = q.2.1 86 k) ∧ ∀ i, i < G → tkn q q' i) ?_ ?_ fu 0 q (by omega) hfu ⟨rfl, rfl, fun _ _ _ _ _ _ => rfl, fun _ _ => rfl, fun j hj => absurd hj (by omega)⟩
  · rintro m s ⟨s1, s2, s3, s4, s5⟩
    have Hs : gz_La s := H.of s1 (congrArg Prod.snd s2)
    refine ⟨s, ?_, s1, s2, s3, s4, s5⟩
    rw [fX9_flock_105, ck_t (sh_85 Hs), s3 85 3 (by omega) (by omega) (by omega) (by omega), e3, if_pos (nI_le (Nat.le_refl _) (by omega)), ef]
  · rintro m i s hi ⟨s1, s2, s3, s4, s5⟩
    have Hs : gz_La s := H.of s1 (congrArg Prod.snd s2)
    obtain ⟨n, hn8, en⟩ := hn i hi
    generalize hu : uI (uI (uI (uI s 88 i (q.2.1 97 (3 * i))) 89 i (q.2.1 97 (3 * i + 1))) 90 i (q.2.1 97 (3 * i + 2))) 86 (2 + i) (q.2.1 98 i) = u
    have H1 : gz_La (uI s 88 i (q.2.1 97 (3 * i))) := Hs.of rfl rfl
    have H2 : gz_La (uI (uI s 88 i (q.2.1 97 (3 * i))) 89 i (q.2.1 97 (3 * i + 1))) := Hs.of rfl rfl
    have H3 : gz_La (uI (uI (uI s 88 i (q.2.1 97 (3 * i))) 89 i (q.2.1 97 (3 * i + 1))) 90 i (q.2.1 97 (3 * i + 2))) := Hs.of rfl rfl
    have Hu : gz_La u := by rw [← hu]; exact Hs.of rfl rfl
    have uo : ∀ a k, (a ≠ 88 ∨ k ≠ i) → (a ≠ 89 ∨ k ≠ i) → (a ≠ 90 ∨ k ≠ i) → (a ≠ 86 ∨ k ≠ 2 + i) → u.2.1 a k = s.2.1 a k := fun a k z1 z2 z3 z4 => by rw [← hu, uI_ne (by omega), uI_ne (by omega), uI_ne (by omega), uI_ne (by omega)]
    have e98 : u.2.1 98 i = nI n := by rw [uo 98 i (by omega) (by omega) (by omega) (by omega), s3 98 i (by omega) (by omega) (by omega) (by omega)]; exact en
    obtain ⟨q', e1, t1, t2, t3, t4⟩ := m_fl175 Hu (i := i) (by omega) hn8 e98 (fun z0 z1 zh => fX9_flock_105 m z0 z1 zh)
    have o97 : ∀ k, s.2.1 97 k = q.2.1 97 k := fun k => s3 97 k (by omega) (by omega) (by omega) (by omega)
    have o98 : ∀ k, s.2.1 98 k = q.2.1 98 k := fun k => s3 98 k (by omega) (by omega) (by omega) (by omega)
    refine ⟨q', ⟨t1.trans (by rw [← hu]; exact s1), t2.trans (by rw [← hu]; exact s2), fun a k z1 z2 z3 z4 => by rw [t3 a k (by omega), uo a k (by omega) (by omega) (by omega) (by omega)]; exact s3 a k z1 z2 z3 z4, fun k z => by rw [t3 86 k (by omega), uo 86 k (by omega) (by omega) (by omega) (by omega)]; exact s4 k z, fun j hj => ?_⟩, ?_⟩
    · by_cases c : j = i
      · subst c
        refine ⟨?_, ?_, ?_, ?_, fun n' k h1 h2 h3 => ?_⟩
        · rw [t3 88 j (by omega), ← hu, uI_ne (by omega), uI_ne (by omega), uI_ne (by omega), uI_at]
        · rw [t3 89 j (by omega), ← hu, uI_ne (by omega), uI_ne (by omega), uI_at]
        · rw [t3 90 j (by omega), ← hu, uI_ne (by omega), uI_at]
        · rw [t3 86 (2 + j) (by omega), ← hu, uI_at]
        · rw [en] at h1
          have := (nI_eq (by omega) (by omega)).mp h1
          rw [t4 k (by omega), uo 99 _ (by omega) (by omega) (by omega) (by omega), s3 99 _ (by omega) (by omega) (by omega) (by omega)]
      · obtain ⟨b1, b2, b3, b4, b5⟩ := s5 j (by omega)
        refine ⟨?_, ?_, ?_, ?_, fun n' k h1 h2 h3 => ?_⟩
        · rw [t3 88 j (by omega), uo _ _ (by omega) (by omega) (by omega) (by omega)]; exact b1
        · rw [t3 89 j (by omega), uo _ _ (by omega) (by omega) (by omega) (by omega)]; exact b2
        · rw [t3 90 j (by omega), uo _ _ (by omega) (by omega) (by omega) (by omega)]; exact b3
        · rw [t3 86 (2 + j) (by omega), uo _ _ (by omega) (by omega) (by omega) (by omega)]; exact b4
        · rw [t3 86 _ (by omega), uo _ _ (by omega) (by omega) (by omega) (by omega)]; exact b5 n' k h1 h2 h3
    · have g3 : (3 : Int32) * nI i = nI (3 * i) := by rw [show (3 : Int32) = nI 3 from rfl, pk_mul]
      have g31 : nI (3 * i) + (1 : Int32) = nI (3 * i + 1) := nI_1 _
      have g32 : nI (3 * i) + (2 : Int32) = nI (3 * i + 2) := by rw [show (2 : Int32) = nI 2 from rfl, nI_add]
      have g2 : (2 : Int32) + nI i = nI (2 + i) := by rw [show (2 : Int32) = nI 2 from rfl, nI_add]
      rw [fX9_flock_105, ck_t (sh_85 Hs), s3 85 3 (by omega) (by omega) (by omega) (by omega), e3, if_neg (nI_ge hi (by omega)), rf_85_4 Hs, br_s, rf_85_21 Hs, br_s, g3, ck_t (in_97 Hs (by omega)), ck_t (in_88 Hs (by omega)), nI_clamp (by omega), nI_clamp (by omega), o97, lt_d, ck_t (sh_85 H1), rf_85_5 H1, br_s, rf_85_21 H1, br_s, g31, ck_t (in_97 H1 (by omega)), ck_t (in_89 H1 (by omega)), nI_clamp (by omega), uI_ne (by omega), o97, lt_d, ck_t (sh_85 H2), rf_85_6 H2, br_s, rf_85_21 H2, br_s, g32, ck_t (in_97 H2 (by omega)), ck_t (in_90 H2 (by omega)), nI_clamp (by omega), uI_ne (by omega), uI_ne (by omega), o97, lt_d, ck_t (sh_85 H3), rf_85_0 H3, br_s, rf_85_22 H3, br_s, ck_t (in_98 H3 (by omega)), g2, ck_t (in_86 H3 (by omega)), nI_clamp (by omega), uI_ne (by omega), uI_ne (by omega), uI_ne (by omega), o98, lt_d, hu]
      exact e1
theorem m_fl224 (H : gz_La q) : ∃ q', fX9_flock_224 gz_fu 85 (1 : Int32) q = some (q.2.1 85 3, q') ∧ q'.1 = q.1 ∧ q'.2.2 = q.2.2 ∧ (∀ a k, a ≠ 86 ∨ k < 2256 → q'.2.1 a k = q.2.1 a k) ∧ ∀ k, k < 3 → q'.2.1 86 (2256 * (k + 1)) = -1 := by
  have hfu : 4 < 1 + gz_fu := by show 4 < 1 + 100000; omega
  generalize ef : gz_fu = fu at hfu
  refine lpr (fun m k (s : gz_H) => fX9_flock_224 m 85 (nI k) s) (fun k s => 1 ≤ k ∧ s.1 = q.1 ∧ s.2.2 = q.2.2 ∧ (∀ a j, a ≠ 86 ∨ j < 2256 → s.2.1 a j = q.2.1 a j) ∧ ∀ j, j + 1 < k → s.2.1 86 (2256 * (j + 1)) = -1) 4 (fun r => ∃ q', r = some (q.2.1 85 3, q') ∧ q'.1 = q.1 ∧ q'.2.2 = q.2.2 ∧ (∀ a k, a ≠ 86 ∨ k < 2256 → q'.2.1 a k = q.2.1 a k) ∧ ∀ k, k < 3 → q'.2.1 86 (2256 * (k + 1)) = -1) ?_ ?_ fu 1 q (by omega) hfu ⟨Nat.le_refl _, rfl, rfl, fun _ _ _ => rfl, fun j hj => absurd hj (by omega)⟩
  · rintro m s ⟨_, s1, s2, s3, s4⟩
    have Hs : gz_La s := H.of s1 (congrArg Prod.snd s2)
    refine ⟨s, ?_, s1, s2, s3, fun k hk => s4 k (by omega)⟩
    rw [fX9_flock_224, if_pos (by decide), ck_t (sh_85 Hs), s3 85 3 (by omega)]
  · rintro m k s hk ⟨s0, s1, s2, s3, s4⟩
    have Hs : gz_La s := H.of s1 (congrArg Prod.snd s2)
    have ek : (2256 : Int32) * nI k + (0 : Int32) = nI (2256 * k) := by rw [show (2256 : Int32) = nI 2256 from rfl, show (0 : Int32) = nI 0 from rfl, n_mul]; rfl
    refine ⟨uI s 86 (2256 * k) (-1), ⟨by omega, s1, s2, fun a j z => by rw [uI_ne (by omega)]; exact s3 a j z, fun j hj => ?_⟩, ?_⟩
    · by_cases c : j + 1 = k
      · rw [← c, uI_at]
      · rw [uI_ne (by omega)]; exact s4 j (by omega)
    · rw [fX9_flock_224, if_neg (show ¬ (4 : Int32) ≤ nI k from nI_ge hk (by decide)), ck_t (sh_85 Hs), rf_85_0 Hs, br_s, ek, ck_t (in_86 Hs (by omega)), nI_clamp (by omega), lt_d, nI_1]
end
