/-! copy -/
theorem m_span {h : gz_H} (H : gz_La h) {k : Nat} (hk : k < 6) (i n : Int32) : fX9_isSpan 85 (nI k) i n h = some (if 0 ≤ i.toInt ∧ i.toInt + n.toInt ≤ (h.2.1 91 k).toInt then 1 else 0, h) := by
  unfold fX9_isSpan fX9_isSpan_0
  by_cases e : i < 0
  · rw [if_pos e, if_neg (by rw [Int32.lt_iff_toInt_lt] at e; simp at e; omega)]
  · rw [if_neg e, ck_t (H.ck rfl), H.rf 85 7 91 (by decide), br_s, ck_t (inb_nI (k := 10) (n := 6) (H.sh rfl) hk (by decide)), nI_clamp (by omega)]
    have hs : (i.toInt64 + n.toInt64).toInt = i.toInt + n.toInt := by
      have a1 := i.toInt_lt
      have a2 := i.le_toInt
      have b1 := n.toInt_lt
      have b2 := n.le_toInt
      rw [Int64.toInt_add, l_of, l_of, Int.bmod_eq_of_le] <;> omega
    have e0 : 0 ≤ i.toInt := by
      have := Int32.not_lt.mp e
      simpa [Int32.le_iff_toInt_le] using this
    by_cases e1 : (h.2.1 91 k).toInt64 < i.toInt64 + n.toInt64
    · rw [if_pos ((cmp_gt _ _).mpr e1), if_neg (by rw [Int64.lt_iff_toInt_lt, hs, l_of] at e1; omega)]
    · rw [if_neg (fun q => e1 ((cmp_gt _ _).mp q)), if_pos (by rw [Int64.lt_iff_toInt_lt, hs, l_of] at e1; omega)]
/-- the reference's items behind k steps forward, backward -/
def cpF (f : Nat → Int32) (s d k p : Nat) : Int32 := if d ≤ p ∧ p < d + k then f (s + (p - d)) else f p
def cpB (f : Nat → Int32) (s d n k p : Nat) : Int32 := if d + (n - k) ≤ p ∧ p < d + n then f (s + (p - d)) else f p
theorem m_cpF {h : gz_H} (H : gz_La h) {r i t j n : Nat} (hr : r < 6) (ht : t < 6) (hi : i + n ≤ 40) (hj : j + n ≤ 40) (hji : j ≤ i) : ∀ (m k : Nat), k ≤ n → n < k + m → fX9_copy_96 m 85 (nI r) (nI i) (nI t) (nI j) (nI n) 0 (nI k) (uF h 92 (cpF (h.2.1 92) (40 * r + i) (40 * t + j) k)) = some (1, uF h 92 (cpF (h.2.1 92) (40 * r + i) (40 * t + j) n)) := by
  intro m
  induction m with
  | zero => intro k h1 h2; omega
  | succ m ih =>
    intro k h1 h2
    have H1 : gz_La (uF h 92 (cpF (h.2.1 92) (40 * r + i) (40 * t + j) k)) := H.of rfl rfl
    rw [fX9_copy_96]
    by_cases e : k = n
    · subst e
      rw [if_pos (nI_le (Nat.le_refl _) (by omega))]
    · rw [if_neg (nI_ge (by omega) (by omega)), if_pos rfl]
      unfold fX9_copy_120
      rw [ck_t (H1.ck rfl), H1.rf 85 8 92 (by decide), br_s, show (40 : Int32) = nI 40 from rfl, n_mul, n_mul, nI_add, nI_add, ck_t (inb_nI (k := 10) (n := 240) (H1.sh rfl) (by omega) (by decide)), ck_t (inb_nI (k := 10) (n := 240) (H1.sh rfl) (by omega) (by decide)), nI_clamp (by omega), nI_clamp (by omega), lt_d, uF_I, if_pos rfl, nI_1]
      have e2 : uI (uF h 92 (cpF (h.2.1 92) (40 * r + i) (40 * t + j) k)) 92 (40 * t + j + k) (cpF (h.2.1 92) (40 * r + i) (40 * t + j) k (40 * r + i + k)) = uF h 92 (cpF (h.2.1 92) (40 * r + i) (40 * t + j) (k + 1)) := by
        rw [uI_eq, uF_uF]
        refine uF_cg fun p => ?_
        show (if p = 40 * t + j + k then _ else (uF h 92 _).2.1 92 p) = _
        rw [uF_I, if_pos rfl]
        unfold cpF
        by_cases e3 : p = 40 * t + j + k
        · rw [if_pos e3, if_neg (by omega), if_pos (by omega)]
          exact congrArg (h.2.1 92) (by omega)
        · rw [if_neg e3]
          by_cases e4 : 40 * t + j ≤ p ∧ p < 40 * t + j + k
          · rw [if_pos e4, if_pos (by omega)]
          · rw [if_neg e4, if_neg (by omega)]
      rw [e2]
      exact ih (k + 1) (by omega) (by omega)
theorem m_cpB {h : gz_H} (H : gz_La h) {r i t j n : Nat} (hr : r < 6) (ht : t < 6) (hi : i + n ≤ 40) (hj : j + n ≤ 40) (hji : i < j) : ∀ (m k : Nat), k ≤ n → n < k + m → fX9_copy_96 m 85 (nI r) (nI i) (nI t) (nI j) (nI n) 1 (nI k) (uF h 92 (cpB (h.2.1 92) (40 * r + i) (40 * t + j) n k)) = some (1, uF h 92 (cpB (h.2.1 92) (40 * r + i) (40 * t + j) n n)) := by
  intro m
  induction m with
  | zero => intro k h1 h2; omega
  | succ m ih =>
    intro k h1 h2
    have H1 : gz_La (uF h 92 (cpB (h.2.1 92) (40 * r + i) (40 * t + j) n k)) := H.of rfl rfl
    rw [fX9_copy_96]
    by_cases e : k = n
    · subst e
      rw [if_pos (nI_le (Nat.le_refl _) (by omega))]
    · rw [if_neg (nI_ge (by omega) (by omega)), if_neg (by decide)]
      have e5 : nI n - (1 : Int32) - nI k = nI (n - 1 - k) := by
        rw [show (1 : Int32) = nI 1 from rfl, pk_sub (by omega), pk_sub (by omega)]
      unfold fX9_copy_120
      rw [e5, ck_t (H1.ck rfl), H1.rf 85 8 92 (by decide), br_s, show (40 : Int32) = nI 40 from rfl, n_mul, n_mul, nI_add, nI_add, ck_t (inb_nI (k := 10) (n := 240) (H1.sh rfl) (by omega) (by decide)), ck_t (inb_nI (k := 10) (n := 240) (H1.sh rfl) (by omega) (by decide)), nI_clamp (by omega), nI_clamp (by omega), lt_d, uF_I, if_pos rfl, nI_1]
      have e2 : uI (uF h 92 (cpB (h.2.1 92) (40 * r + i) (40 * t + j) n k)) 92 (40 * t + j + (n - 1 - k)) (cpB (h.2.1 92) (40 * r + i) (40 * t + j) n k (40 * r + i + (n - 1 - k))) = uF h 92 (cpB (h.2.1 92) (40 * r + i) (40 * t + j) n (k + 1)) := by
        rw [uI_eq, uF_uF]
        refine uF_cg fun p => ?_
        show (if p = 40 * t + j + (n - 1 - k) then _ else (uF h 92 _).2.1 92 p) = _
        rw [uF_I, if_pos rfl]
        unfold cpB
        by_cases e3 : p = 40 * t + j + (n - 1 - k)
        · rw [if_pos e3, if_neg (by omega), if_pos (by omega)]
          exact congrArg (h.2.1 92) (by omega)
        · rw [if_neg e3]
          by_cases e4 : 40 * t + j + (n - k) ≤ p ∧ p < 40 * t + j + n
          · rw [if_pos e4, if_pos (by omega)]
          · rw [if_neg e4, if_neg (by omega)]
      rw [e2]
      exact ih (k + 1) (by omega) (by omega)
theorem rw_cp {h : gz_H} (I : gz_In h) {r i t j n : Nat} (hr : r < 6) (ht : t < 6) (hi : i + n ≤ 40) (hj : j + n ≤ 40) (f g : Nat → Int32) (hf : ∀ k, k < 40 → f k = if j ≤ k ∧ k < j + n then h.2.1 (3 + r) (i + (k - j)) else h.2.1 (3 + t) k)
    (hg : ∀ p, g p = if 40 * t + j ≤ p ∧ p < 40 * t + j + n then h.2.1 92 (40 * r + i + (p - (40 * t + j))) else h.2.1 92 p) : gz_St h (uF (uF h (3 + t) f) 92 g) := by
  obtain ⟨H, F, Rw, Tx, Sc⟩ := I
  have off : ∀ a k, (a < 3 ∨ 8 < a) → a ≠ 92 → (uF (uF h (3 + t) f) 92 g).2.1 a k = h.2.1 a k := fun a k h1 h2 => by rw [uF_I, if_neg h2, uF_I, if_neg (by omega)]
  refine ⟨⟨H.of rfl rfl, F.cg (fun a k ha => off a k (by omega) (by omega)), ?_, Tx.cg (fun a k ha => off a k (by omega) (by omega)), Sc.cg (fun a k ha => off a k (by omega) (by omega)) rfl⟩, rfl, fun a k ha => by unfold gz_ff at ha; exact off a k (by omega) (by omega)⟩
  intro r' hr'
  obtain ⟨t1, t2, t3⟩ := Rw r' hr'
  rw [off 9 r' (by omega) (by omega), off 91 r' (by omega) (by omega)]
  refine ⟨t1, t2, fun k hk => ?_⟩
  rw [uF_I, if_neg (by omega), uF_I, uF_I, if_pos rfl, hg]
  by_cases e : r' = t
  · subst e
    rw [if_pos rfl, hf k hk]
    by_cases e1 : j ≤ k ∧ k < j + n
    · rw [if_pos e1, if_pos (by omega), (Rw r hr).2.2 (i + (k - j)) (by omega)]
      exact congrArg (h.2.1 92) (by omega)
    · rw [if_neg e1, if_neg (by omega)]
      exact t3 k hk
  · rw [if_neg (by omega), if_neg (by omega)]
    exact t3 k hk
theorem cpOk_t {h : gz_H} {a b n0 n1 i j n : Nat} (e0 : h.1[a]? = some (10, n0)) (e1 : h.1[b]? = some (10, n1)) (h0 : i + n ≤ n0) (h1 : j + n ≤ n1) (hb : n0 < 2 ^ 31) (hc : n1 < 2 ^ 31) : gz_cpOk h a b (nI i) (nI j) (nI n) = true := by
  unfold gz_cpOk
  rw [e0, e1]
  simp only [beq_self_eq_true, Bool.true_and, Bool.and_eq_true, Bool.not_eq_true', decide_eq_false_iff_not, decide_eq_true_eq]
  rw [nI_clamp (by omega), nI_clamp (by omega), nI_clamp (by omega)]
  exact ⟨⟨⟨⟨nI_pos (by omega), nI_pos (by omega)⟩, nI_pos (by omega)⟩, h0⟩, h1⟩
theorem n_of0 {x : Int32} {m : Nat} (h0 : 0 ≤ x.toInt) (h1 : x.toInt ≤ m) (hm : m < 2 ^ 30) : ∃ j : Nat, j ≤ m ∧ x = nI j := by
  rcases p_cases x (m + 1) (by omega) with q | ⟨j, hj, e⟩
  · have := p_out_toInt (by omega) q
    omega
  · exact ⟨j, by omega, e⟩
theorem st_copy {h : gz_H} (I : gz_In h) (x i y j n : Int32) : gz_ag (fX8_copy 0 x i y j n) (fX9_copy 85 x i y j n) h (gz_St h) := by
  have I0 := I
  obtain ⟨H, F, Rw, Tx, Sc⟩ := I
  have S := H.rows F
  have x60 : fX8_copy_60 0 h = some (-3, gz_xf h 1) := by
    unfold fX8_copy_60
    rw [ck_t (H.ck rfl), H.rf 0 3 18 (by decide), br_s, ck_t (H.ck rfl), show (1 : Int32) = nI 1 from rfl, p_answer H (by decide), b2_s]
  have x98 : fX8_copy_98 0 h = some (-3, gz_xf h 2) := by
    unfold fX8_copy_98
    rw [ck_t (H.ck rfl), H.rf 0 3 18 (by decide), br_s, ck_t (H.ck rfl), show (2 : Int32) = nI 2 from rfl, p_answer H (by decide), b2_s]
  have m45 : fX9_copy_45 85 (gz_xf h 1) = some (-3, gz_mf (gz_xf h 1) 1) := by
    have H1 := gz_xf_La (f := 1) H
    unfold fX9_copy_45
    rw [ck_t (H1.ck rfl), show (1 : Int32) = nI 1 from rfl, p_find H1 (by decide), b2_s]
  have m74 : fX9_copy_74 85 (gz_xf h 2) = some (-3, gz_mf (gz_xf h 2) 2) := by
    have H1 := gz_xf_La (f := 2) H
    unfold fX9_copy_74
    rw [ck_t (H1.ck rfl), show (2 : Int32) = nI 2 from rfl, p_find H1 (by decide), b2_s]
  rcases p_cases x 6 (by decide) with hx | ⟨r, hr, rfl⟩
  · refine st_sameE I0 (v := -1) (X := fX8_copy 0 x i y j n) (M := fX9_copy 85 x i y j n) ?_ ?_
    · unfold fX8_copy fX8_copy_0
      rw [ck_t (H.ck rfl), H.rf 0 0 1 (by decide), br_s, ck_t (H.ck rfl), p_knows_out S hx, b2_s, if_pos rfl]
    · unfold fX9_copy fX9_copy_0
      rw [p_isRow_out hx, b2_s, if_pos rfl]
  · rcases p_cases y 6 (by decide) with hy | ⟨t, ht, rfl⟩
    · refine st_sameE I0 (v := -1) (X := fX8_copy 0 (nI r) i y j n) (M := fX9_copy 85 (nI r) i y j n) ?_ ?_
      · unfold fX8_copy fX8_copy_0
        rw [ck_t (H.ck rfl), H.rf 0 0 1 (by decide), br_s, ck_t (H.ck rfl), p_knows_in S hr, b2_s, if_neg (by decide), ck_t (H.ck rfl), H.rf 0 0 1 (by decide), br_s, ck_t (H.ck rfl), p_knows_out S hy, b2_s, if_pos rfl]
      · unfold fX9_copy fX9_copy_0
        rw [p_isRow_in hr, b2_s, if_neg (by decide), p_isRow_out hy, b2_s, if_pos rfl]
    · have cr : (nI r).toNatClampNeg = r := nI_clamp (by omega)
      have ct : (nI t).toNatClampNeg = t := nI_clamp (by omega)
      obtain ⟨q1, q2, q3⟩ := Rw r hr
      obtain ⟨u1, u2, u3⟩ := Rw t ht
      rcases Int.lt_or_le n.toInt 0 with hn | hn
      · refine st_findE I0 (f := 5) (by decide) (X := fX8_copy 0 (nI r) i (nI t) j n) (M := fX9_copy 85 (nI r) i (nI t) j n) ?_ ?_
        · unfold fX8_copy fX8_copy_0
          rw [ck_t (H.ck rfl), H.rf 0 0 1 (by decide), br_s, ck_t (H.ck rfl), p_knows_in S hr, b2_s, if_neg (by decide), ck_t (H.ck rfl), H.rf 0 0 1 (by decide), br_s, ck_t (H.ck rfl), p_knows_in S ht, b2_s, if_neg (by decide), if_neg (by rw [t_ge0]; omega), ck_t (H.ck rfl), H.rf 0 3 18 (by decide), br_s, ck_t (H.ck rfl), show (5 : Int32) = nI 5 from rfl, p_answer H (by decide), b2_s]
        · have H1 := gz_xf_La (f := 5) H
          unfold fX9_copy fX9_copy_0
          rw [p_isRow_in hr, b2_s, if_neg (by decide), p_isRow_in ht, b2_s, if_neg (by decide), if_neg (by rw [t_ge0]; omega), ck_t (H1.ck rfl), show (5 : Int32) = nI 5 from rfl, p_find H1 (by decide), b2_s]
      · have hn' : 0 ≤ n := t_ge0.mpr hn
        rcases q2 with e | ⟨nr, hnr, enr⟩
        · refine st_findE I0 (f := 1) (by decide) (X := fX8_copy 0 (nI r) i (nI t) j n) (M := fX9_copy 85 (nI r) i (nI t) j n) ?_ ?_
          · unfold fX8_copy fX8_copy_0
            rw [ck_t (H.ck rfl), H.rf 0 0 1 (by decide), br_s, ck_t (H.ck rfl), p_knows_in S hr, b2_s, if_neg (by decide), ck_t (H.ck rfl), H.rf 0 0 1 (by decide), br_s, ck_t (H.ck rfl), p_knows_in S ht, b2_s, if_neg (by decide), if_pos hn', ck_t (H.ck rfl), H.rf 0 0 1 (by decide), br_s, ck_t (H.ck rfl), p_has0 S hr e, b2_s, if_pos rfl, x60]
          · have H1 := gz_xf_La (f := 1) H
            have m91 : (gz_xf h 1).2.1 91 r = -1 := by rw [gz_xf_I 91 r (by decide) (by decide), ← q1]; exact e
            unfold fX9_copy fX9_copy_0
            rw [p_isRow_in hr, b2_s, if_neg (by decide), p_isRow_in ht, b2_s, if_neg (by decide), if_pos hn', ck_t (H1.ck rfl), H1.rf 85 7 91 (by decide), br_s, ck_t (inb_nI (k := 10) (n := 6) (H1.sh rfl) hr (by decide)), cr, m91, if_pos (by decide), m45]
        · have hner : ¬ h.2.1 9 r = -1 := by rw [enr]; exact n_ne nr (by omega)
          rcases u2 with e | ⟨nt, hnt, ent⟩
          · refine st_findE I0 (f := 1) (by decide) (X := fX8_copy 0 (nI r) i (nI t) j n) (M := fX9_copy 85 (nI r) i (nI t) j n) ?_ ?_
            · unfold fX8_copy fX8_copy_0
              rw [ck_t (H.ck rfl), H.rf 0 0 1 (by decide), br_s, ck_t (H.ck rfl), p_knows_in S hr, b2_s, if_neg (by decide), ck_t (H.ck rfl), H.rf 0 0 1 (by decide), br_s, ck_t (H.ck rfl), p_knows_in S ht, b2_s, if_neg (by decide), if_pos hn', ck_t (H.ck rfl), H.rf 0 0 1 (by decide), br_s, ck_t (H.ck rfl), p_has1 S hr hner, b2_s, if_neg (by decide), ck_t (H.ck rfl), H.rf 0 0 1 (by decide), br_s, ck_t (H.ck rfl), p_has0 S ht e, b2_s, if_pos rfl, x60]
            · have H1 := gz_xf_La (f := 1) H
              have m91 : (gz_xf h 1).2.1 91 r = nI nr := by rw [gz_xf_I 91 r (by decide) (by decide), ← q1]; exact enr
              have m91t : (gz_xf h 1).2.1 91 t = -1 := by rw [gz_xf_I 91 t (by decide) (by decide), ← u1]; exact e
              unfold fX9_copy fX9_copy_0
              rw [p_isRow_in hr, b2_s, if_neg (by decide), p_isRow_in ht, b2_s, if_neg (by decide), if_pos hn', ck_t (H1.ck rfl), H1.rf 85 7 91 (by decide), br_s, ck_t (inb_nI (k := 10) (n := 6) (H1.sh rfl) hr (by decide)), cr, m91, if_neg (nI_pos (by omega)), ck_t (inb_nI (k := 10) (n := 6) (H1.sh rfl) ht (by decide)), ct, m91t, if_neg (by decide), m45]
          · have hnet : ¬ h.2.1 9 t = -1 := by rw [ent]; exact n_ne nt (by omega)
            have er : (h.2.1 9 r).toInt = nr := by rw [enr, nI_toInt (by omega)]
            have et : (h.2.1 9 t).toInt = nt := by rw [ent, nI_toInt (by omega)]
            by_cases c1 : 0 ≤ i.toInt ∧ i.toInt + n.toInt ≤ (h.2.1 9 r).toInt
            · by_cases c2 : 0 ≤ j.toInt ∧ j.toInt + n.toInt ≤ (h.2.1 9 t).toInt
              · obtain ⟨i, hi, rfl⟩ := n_of0 (x := i) (m := 40) c1.1 (by omega) (by decide)
                obtain ⟨j, hj, rfl⟩ := n_of0 (x := j) (m := 40) c2.1 (by omega) (by decide)
                obtain ⟨n, hn2, rfl⟩ := n_of0 (x := n) (m := 40) hn (by omega) (by decide)
                have ti : (nI i).toInt = i := nI_toInt (by omega)
                have tj : (nI j).toInt = j := nI_toInt (by omega)
                have tn : (nI n).toInt = n := nI_toInt (by omega)
                have hsr := S.2.2.2.2.2.1 r hr
                have hst := S.2.2.2.2.2.1 t ht
                have bi : i + n ≤ nr := by omega
                have bj : j + n ≤ nt := by omega
                refine ⟨1, gz_cp h (3 + r) (3 + t) (nI i) (nI j) (nI n), uF (gz_cp h (3 + r) (3 + t) (nI i) (nI j) (nI n)) 92 (fun p => if 40 * t + j ≤ p ∧ p < 40 * t + j + n then h.2.1 92 (40 * r + i + (p - (40 * t + j))) else h.2.1 92 p), ?_, H.1, ?_, ?_⟩
                · unfold fX8_copy fX8_copy_0
                  rw [ck_t (H.ck rfl), H.rf 0 0 1 (by decide), br_s, ck_t (H.ck rfl), p_knows_in S hr, b2_s, if_neg (by decide), ck_t (H.ck rfl), H.rf 0 0 1 (by decide), br_s, ck_t (H.ck rfl), p_knows_in S ht, b2_s, if_neg (by decide), if_pos hn', ck_t (H.ck rfl), H.rf 0 0 1 (by decide), br_s, ck_t (H.ck rfl), p_has1 S hr hner, b2_s, if_neg (by decide), ck_t (H.ck rfl), H.rf 0 0 1 (by decide), br_s, ck_t (H.ck rfl), p_has1 S ht hnet, b2_s, if_neg (by decide), ck_t (H.ck rfl), H.rf 0 0 1 (by decide), br_s, ck_t (H.ck rfl), p_str S hr, if_pos c1, b2_s, if_neg (by decide), ck_t (H.ck rfl), H.rf 0 0 1 (by decide), br_s, ck_t (H.ck rfl), p_str S ht, if_pos c2, b2_s, if_neg (by decide), ck_t (H.ck rfl), H.rf 0 0 1 (by decide), br_s, ck_t (H.ck rfl), H.rf 1 1 2 (by decide), br_s, ck_t (inb_nI (k := 13) (n := 6) (H.sh rfl) hr (by decide)), cr, hsr.1, br_s, ck_t (inb_nI (k := 13) (n := 6) (H.sh rfl) ht (by decide)), ct, hst.1, br_s, ck_t (cpOk_t hsr.2 hst.2 (by omega) (by omega) (by decide) (by decide)), lt_d]
                · have H1 : gz_La (gz_cp h (3 + r) (3 + t) (nI i) (nI j) (nI n)) := H.of rfl rfl
                  have o92 : ∀ a p, 9 ≤ a → (gz_cp h (3 + r) (3 + t) (nI i) (nI j) (nI n)).2.1 a p = h.2.1 a p := fun a p ha => by
                    unfold gz_cp
                    rw [uF_I, if_neg (by omega)]
                  have m91 : (gz_cp h (3 + r) (3 + t) (nI i) (nI j) (nI n)).2.1 91 r = nI nr := by rw [o92 91 r (by omega), ← q1]; exact enr
                  have m91t : (gz_cp h (3 + r) (3 + t) (nI i) (nI j) (nI n)).2.1 91 t = nI nt := by rw [o92 91 t (by omega), ← u1]; exact ent
                  unfold fX9_copy fX9_copy_0
                  rw [p_isRow_in hr, b2_s, if_neg (by decide), p_isRow_in ht, b2_s, if_neg (by decide), if_pos hn', ck_t (H1.ck rfl), H1.rf 85 7 91 (by decide), br_s, ck_t (inb_nI (k := 10) (n := 6) (H1.sh rfl) hr (by decide)), cr, m91, if_neg (nI_pos (by omega)), ck_t (inb_nI (k := 10) (n := 6) (H1.sh rfl) ht (by decide)), ct, m91t, if_pos (nI_pos' (by omega)), m_span H1 hr, m91, if_pos (by rw [ti, tn, nI_toInt (by omega)]; omega), b2_s, if_neg (by decide), ck_t (H1.ck rfl), m_span H1 ht, m91t, if_pos (by rw [tj, tn, nI_toInt (by omega)]; omega), b2_s, if_neg (by decide)]
                  unfold fX9_copy_91
                  generalize hg1 : gz_cp h (3 + r) (3 + t) (nI i) (nI j) (nI n) = g1 at *
                  by_cases c3 : j ≤ i
                  · rw [if_pos (nI_le c3 (by omega))]
                    have := m_cpF H1 hr ht (show i + n ≤ 40 by omega) (show j + n ≤ 40 by omega) c3 gz_fu 0 (by omega) (by show n < 0 + 100000; omega)
                    have e0 : uF g1 92 (cpF (g1.2.1 92) (40 * r + i) (40 * t + j) 0) = g1 := by
                      refine (uF_cg fun p => ?_).trans (uF_self (h := g1) (a := 92))
                      unfold cpF
                      rw [if_neg (by omega)]
                    rw [e0] at this
                    refine this.trans ?_
                    refine congrArg some (congrArg (Prod.mk _) (uF_cg fun p => ?_))
                    unfold cpF
                    rw [o92 92 _ (by omega), o92 92 _ (by omega)]
                  · rw [if_neg (nI_ge (by omega) (by omega))]
                    have := m_cpB H1 hr ht (show i + n ≤ 40 by omega) (show j + n ≤ 40 by omega) (by omega) gz_fu 0 (by omega) (by show n < 0 + 100000; omega)
                    have e0 : uF g1 92 (cpB (g1.2.1 92) (40 * r + i) (40 * t + j) n 0) = g1 := by
                      refine (uF_cg fun p => ?_).trans (uF_self (h := g1) (a := 92))
                      unfold cpB
                      rw [if_neg (by omega)]
                    rw [e0] at this
                    refine this.trans ?_
                    refine congrArg some (congrArg (Prod.mk _) (uF_cg fun p => ?_))
                    unfold cpB
                    rw [o92 92 _ (by omega), o92 92 _ (by omega), Nat.sub_self, Nat.add_zero]
                · unfold gz_cp
                  refine rw_cp I0 hr ht (show i + n ≤ 40 by omega) (show j + n ≤ 40 by omega) _ _ (fun k hk => ?_) (fun p => rfl)
                  rw [nI_clamp (by omega), nI_clamp (by omega), nI_clamp (by omega)]
                  by_cases c4 : j ≤ k ∧ k < j + n
                  · rw [if_pos c4, pk_cpy_in c4.1 c4.2]
                  · rw [if_neg c4, pk_cpy_out (by omega)]
              · refine st_findE I0 (f := 2) (by decide) (X := fX8_copy 0 (nI r) i (nI t) j n) (M := fX9_copy 85 (nI r) i (nI t) j n) ?_ ?_
                · unfold fX8_copy fX8_copy_0
                  rw [ck_t (H.ck rfl), H.rf 0 0 1 (by decide), br_s, ck_t (H.ck rfl), p_knows_in S hr, b2_s, if_neg (by decide), ck_t (H.ck rfl), H.rf 0 0 1 (by decide), br_s, ck_t (H.ck rfl), p_knows_in S ht, b2_s, if_neg (by decide), if_pos hn', ck_t (H.ck rfl), H.rf 0 0 1 (by decide), br_s, ck_t (H.ck rfl), p_has1 S hr hner, b2_s, if_neg (by decide), ck_t (H.ck rfl), H.rf 0 0 1 (by decide), br_s, ck_t (H.ck rfl), p_has1 S ht hnet, b2_s, if_neg (by decide), ck_t (H.ck rfl), H.rf 0 0 1 (by decide), br_s, ck_t (H.ck rfl), p_str S hr, if_pos c1, b2_s, if_neg (by decide), ck_t (H.ck rfl), H.rf 0 0 1 (by decide), br_s, ck_t (H.ck rfl), p_str S ht, if_neg c2, b2_s, if_pos rfl, x98]
                · have H1 := gz_xf_La (f := 2) H
                  have m91 : (gz_xf h 2).2.1 91 r = nI nr := by rw [gz_xf_I 91 r (by decide) (by decide), ← q1]; exact enr
                  have m91t : (gz_xf h 2).2.1 91 t = nI nt := by rw [gz_xf_I 91 t (by decide) (by decide), ← u1]; exact ent
                  unfold fX9_copy fX9_copy_0
                  rw [p_isRow_in hr, b2_s, if_neg (by decide), p_isRow_in ht, b2_s, if_neg (by decide), if_pos hn', ck_t (H1.ck rfl), H1.rf 85 7 91 (by decide), br_s, ck_t (inb_nI (k := 10) (n := 6) (H1.sh rfl) hr (by decide)), cr, m91, if_neg (nI_pos (by omega)), ck_t (inb_nI (k := 10) (n := 6) (H1.sh rfl) ht (by decide)), ct, m91t, if_pos (nI_pos' (by omega)), m_span H1 hr, m91, if_pos (by rw [← enr]; exact c1), b2_s, if_neg (by decide), ck_t (H1.ck rfl), m_span H1 ht, m91t, if_neg (by rw [← ent]; exact c2), b2_s, if_pos rfl, m74]
            · refine st_findE I0 (f := 2) (by decide) (X := fX8_copy 0 (nI r) i (nI t) j n) (M := fX9_copy 85 (nI r) i (nI t) j n) ?_ ?_
              · unfold fX8_copy fX8_copy_0
                rw [ck_t (H.ck rfl), H.rf 0 0 1 (by decide), br_s, ck_t (H.ck rfl), p_knows_in S hr, b2_s, if_neg (by decide), ck_t (H.ck rfl), H.rf 0 0 1 (by decide), br_s, ck_t (H.ck rfl), p_knows_in S ht, b2_s, if_neg (by decide), if_pos hn', ck_t (H.ck rfl), H.rf 0 0 1 (by decide), br_s, ck_t (H.ck rfl), p_has1 S hr hner, b2_s, if_neg (by decide), ck_t (H.ck rfl), H.rf 0 0 1 (by decide), br_s, ck_t (H.ck rfl), p_has1 S ht hnet, b2_s, if_neg (by decide), ck_t (H.ck rfl), H.rf 0 0 1 (by decide), br_s, ck_t (H.ck rfl), p_str S hr, if_neg c1, b2_s, if_pos rfl, x98]
              · have H1 := gz_xf_La (f := 2) H
                have m91 : (gz_xf h 2).2.1 91 r = nI nr := by rw [gz_xf_I 91 r (by decide) (by decide), ← q1]; exact enr
                have m91t : (gz_xf h 2).2.1 91 t = nI nt := by rw [gz_xf_I 91 t (by decide) (by decide), ← u1]; exact ent
                unfold fX9_copy fX9_copy_0
                rw [p_isRow_in hr, b2_s, if_neg (by decide), p_isRow_in ht, b2_s, if_neg (by decide), if_pos hn', ck_t (H1.ck rfl), H1.rf 85 7 91 (by decide), br_s, ck_t (inb_nI (k := 10) (n := 6) (H1.sh rfl) hr (by decide)), cr, m91, if_neg (nI_pos (by omega)), ck_t (inb_nI (k := 10) (n := 6) (H1.sh rfl) ht (by decide)), ct, m91t, if_pos (nI_pos' (by omega)), m_span H1 hr, m91, if_neg (by rw [← enr]; exact c1), b2_s, if_pos rfl, m74]
theorem op_copy {h : gz_H} (I : gz_Iv h) (x1 x2 x3 x4 x5 : Int32) : gz_ag (fX8_copy 0 x1 x2 x3 x4 x5) (fX9_copy 85 x1 x2 x3 x4 x5) h gz_Iv := ag_iv I (st_copy I.1 x1 x2 x3 x4 x5)
