/-! PURE: least agrees -/
section
variable {h : gz_H} {T : gz_T} {E : gz_D}
def tel (T : gz_T) (E : gz_D) (s : Nat) : Nat := tae T E (s / 6) (s % 6)
def TM (T : gz_T) (E : gz_D) (n t : Nat) : Prop := t ≠ 0 ∧ ∃ s, s < n ∧ tel T E s = t
theorem tel_at {i p : Nat} (hp : p < 6) : tel T E (6 * i + p) = tae T E i p := by
  unfold tel
  rw [show (6 * i + p) / 6 = i by omega, show (6 * i + p) % 6 = p by omega]
/-- the tellings, listed -/
def LT (T : gz_T) (E : gz_D) (h : gz_H) (n : Nat) (L : List Nat) (q : gz_H) : Prop := sc h q ∧ L.length ≤ n ∧ (∀ k, k < L.length → q.2.1 75 k = nI (L.getD k 0)) ∧ ∀ t, t ∈ L ↔ TM T E n t
theorem x_list (V : XV h T E) : ∃ h' L, fX1_listTellings 28 75 h = some (nI L.length, h') ∧ LT T E h (6 * T.2.1) L h' := by
  have b := V.b
  unfold fX1_listTellings fX1_listTellings_0
  have hfu : T.2.1 < 0 + gz_fu := by show T.2.1 < 0 + 100000; omega
  have hfu6 : 6 < 0 + gz_fu := by show 6 < 0 + 100000; omega
  generalize ef : gz_fu = fu at hfu hfu6
  refine lpr (fun m i (s : List Nat × gz_H) => fX1_listTellings_4 m 28 75 (nI s.1.length) (nI i) s.2) (fun i s => LT T E h (6 * i) s.1 s.2) T.2.1 (fun r => ∃ h' L, r = some (nI L.length, h') ∧ LT T E h (6 * T.2.1) L h') ?_ ?_ fu 0 ([], h) (by omega) hfu ⟨sc.rf, Nat.le_refl _, fun k hk => absurd hk (by simp), fun t => ⟨fun z => absurd z (by simp), fun ⟨_, s, z, _⟩ => absurd z (by omega)⟩⟩
  · rintro m ⟨L, q⟩ lt
    have V1 := V.sc lt.1
    have H1 := V1.H
    refine ⟨q, L, ?_, lt⟩
    show fX1_listTellings_4 (m + 1) 28 75 (nI L.length) (nI T.2.1) q = _
    rw [fX1_listTellings_4, ck_t (sh_28 H1), V1.n, if_pos (nI_le (Nat.le_refl _) (by omega))]
  · rintro m i ⟨L, q⟩ hi lt
    have V1 := V.sc lt.1
    have H1 := V1.H
    have A : ∃ s' : List Nat × gz_H, fX1_listTellings_15 (fun z0 z1 z2 z3 zh => fX1_listTellings_4 m z0 z1 z2 z3 zh) fu 28 75 (nI L.length) (nI i) (nI 0) q = fX1_listTellings_4 m 28 75 (nI s'.1.length) (nI (i + 1)) s'.2 ∧ LT T E h (6 * (i + 1)) s'.1 s'.2 := by
      refine lpr (fun n p (s : List Nat × gz_H) => fX1_listTellings_15 (fun z0 z1 z2 z3 zh => fX1_listTellings_4 m z0 z1 z2 z3 zh) n 28 75 (nI s.1.length) (nI i) (nI p) s.2) (fun p s => LT T E h (6 * i + p) s.1 s.2) 6 (fun r => ∃ s' : List Nat × gz_H, r = fX1_listTellings_4 m 28 75 (nI s'.1.length) (nI (i + 1)) s'.2 ∧ LT T E h (6 * (i + 1)) s'.1 s'.2) ?_ ?_ fu 0 (L, q) (by omega) hfu6 lt
      · rintro n ⟨L1, q1⟩ lt1
        refine ⟨(L1, q1), ?_, lt1⟩
        show fX1_listTellings_15 _ (n + 1) 28 75 (nI L1.length) (nI i) (nI 6) q1 = _
        rw [fX1_listTellings_15, if_pos (by decide), nI_1]
      · rintro n p ⟨L1, q1⟩ hp lt1
        obtain ⟨c1, c2, c3, c4⟩ := lt1
        have c2 : L1.length ≤ 6 * i + p := c2
        have c3 : ∀ k, k < L1.length → q1.2.1 75 k = nI (L1.getD k 0) := c3
        have V2 := V.sc c1
        have H2 := V2.H
        have tb8 := tae_lt8 V.2.1 V.2.2.1 (p := p) hi
        have E0 : fX1_listTellings_15 (fun z0 z1 z2 z3 zh => fX1_listTellings_4 m z0 z1 z2 z3 zh) (n + 1) 28 75 (nI L1.length) (nI i) (nI p) q1 = if nI (tae T E i p) = 0 then fX1_listTellings_15 (fun z0 z1 z2 z3 zh => fX1_listTellings_4 m z0 z1 z2 z3 zh) n 28 75 (nI L1.length) (nI i) (nI (p + 1)) q1 else fX1_listTellings_15 (fun z0 z1 z2 z3 zh => fX1_listTellings_4 m z0 z1 z2 z3 zh) n 28 75 (nI (L1.length + 1)) (nI i) (nI (p + 1)) (uI q1 75 L1.length (nI (tae T E i p))) := by
          rw [fX1_listTellings_15, if_neg (show ¬ (6 : Int32) ≤ nI p from nI_ge hp (by decide)), ck_t (sh_28 H2), x_toldAt V2 hi hp, b2_s]
          unfold fX1_listTellings_50
          rw [len_s (H2.sh rfl) (by decide), bi_s, if_neg (nI_ge (b := 36) (by omega) (by decide)), ck_t (in_75 H2 (by omega)), nI_clamp (by omega), lt_d, nI_1, nI_1]
        by_cases z : tae T E i p = 0
        · refine ⟨(L1, q1), ⟨c1, by show L1.length ≤ 6 * i + (p + 1); omega, c3, fun t => (c4 t).trans ⟨fun ⟨z1, s, z2, z3⟩ => ⟨z1, s, by omega, z3⟩, fun ⟨z1, s, z2, z3⟩ => ⟨z1, s, ?_, z3⟩⟩⟩, ?_⟩
          · rcases Nat.lt_or_ge s (6 * i + p) with y | y
            · exact y
            · have : s = 6 * i + p := by omega
              rw [this, tel_at hp, z] at z3
              exact absurd z3.symm z1
          · exact E0.trans (by rw [if_pos ((nI_z (by omega)).mpr z)])
        · refine ⟨(L1 ++ [tae T E i p], uI q1 75 L1.length (nI (tae T E i p))), ⟨c1.tr (sc.uI (by unfold scr; omega)), ?_, fun k hk => ?_, fun t => ?_⟩, ?_⟩
          · show (L1 ++ [tae T E i p]).length ≤ 6 * i + (p + 1)
            rw [List.length_append]
            show L1.length + 1 ≤ _
            omega
          · show (uI q1 75 L1.length (nI (tae T E i p))).2.1 75 k = nI ((L1 ++ [tae T E i p]).getD k 0)
            have hk : k < (L1 ++ [tae T E i p]).length := hk
            rw [List.length_append] at hk
            have hk : k < L1.length + 1 := hk
            by_cases y : k = L1.length
            · rw [y, uI_at, ld_app]
            · rw [uI_ne (by omega), ld_lt (by omega)]; exact c3 k (by omega)
          · show t ∈ L1 ++ [tae T E i p] ↔ TM T E (6 * i + (p + 1)) t
            have c4 : t ∈ L1 ↔ TM T E (6 * i + p) t := c4 t
            rw [List.mem_append, List.mem_singleton, c4]
            constructor
            · rintro (⟨z1, s, z2, z3⟩ | y)
              · exact ⟨z1, s, by omega, z3⟩
              · exact ⟨by rw [y]; exact z, 6 * i + p, by omega, by rw [tel_at hp, y]⟩
            · rintro ⟨z1, s, z2, z3⟩
              rcases Nat.lt_or_ge s (6 * i + p) with y | y
              · exact Or.inl ⟨z1, s, y, z3⟩
              · have : s = 6 * i + p := by omega
                rw [this, tel_at hp] at z3
                exact Or.inr z3.symm
          · refine E0.trans ?_
            rw [if_neg (fun y => z ((nI_z (by omega)).mp y))]
            show _ = fX1_listTellings_15 (fun z0 z1 z2 z3 zh => fX1_listTellings_4 m z0 z1 z2 z3 zh) n 28 75 (nI (L1 ++ [tae T E i p]).length) (nI i) (nI (p + 1)) _
            rw [List.length_append]
            rfl
    obtain ⟨s', e, lt'⟩ := A
    refine ⟨s', lt', ?_⟩
    show fX1_listTellings_4 (m + 1) 28 75 (nI L.length) (nI i) q = _
    rw [fX1_listTellings_4, ck_t (sh_28 H1), V1.n, if_neg (nI_ge hi (by omega)), ef]
    exact e
theorem and_p {t f : Nat} : t &&& 2 ^ f = 0 ↔ t.testBit f = false := by
  constructor
  · intro e
    have : (t &&& 2 ^ f).testBit f = false := by rw [e]; exact Nat.zero_testBit f
    rw [Nat.testBit_and, Nat.testBit_two_pow_self, Bool.and_true] at this
    exact this
  · intro e
    apply bit_ext
    intro k
    rw [Nat.testBit_and, Nat.zero_testBit, Bool.and_eq_true, bit_p]
    constructor
    · rintro ⟨q1, q2⟩
      rw [q2, e] at q1
      exact q1
    · intro z; exact absurd z (by decide)
theorem low1 : ∀ s : Fin 256, s.1 = 0 ∨ (nI s.1 &&& -nI s.1 = nI (2 ^ fst1 s.1) ∧ s.1.testBit (fst1 s.1) = true ∧ fst1 s.1 < 8) := by decide +kernel
theorem sb_le {S U : Nat} (h : sb S U) : S ≤ U := by
  have : S = S &&& U := by
    apply bit_ext
    intro k
    rw [Nat.testBit_and, Bool.and_eq_true]
    exact ⟨fun z => ⟨z, h k z⟩, fun z => z.1⟩
  rw [this]
  exact Nat.and_le_right
theorem x_cheap (H : gz_La h) {L : List Nat} {Tm : Nat → Prop} (hl : L.length ≤ 36) (lc : ∀ k, k < L.length → h.2.1 75 k = nI (L.getD k 0)) (lm : ∀ t, t ∈ L ↔ Tm t) (l8 : ∀ t, t ∈ L → t < 256) {S f : Nat} (h0 : ¬ S = 0) (h8 : S < 256) (hf : sb S f) (hc : ∀ S', S' < S → sb S' f → ∃ c, h.2.1 76 S' = nI c ∧ CC Tm c S') : ∃ c, fX8_cheapest 0 (nI S) (nI L.length) h = some (nI c, h) ∧ CC Tm c S := by
  obtain ⟨w1, w2, w3⟩ := (low1 ⟨S, h8⟩).resolve_left h0
  have w1 : nI S &&& -nI S = nI (2 ^ fst1 S) := w1
  have w2 : S.testBit (fst1 S) = true := w2
  have w3 : fst1 S < 8 := w3
  unfold fX8_cheapest fX8_cheapest_0
  rw [w1]
  have hfu : L.length < 0 + gz_fu := by show L.length < 0 + 100000; omega
  generalize gz_fu = fu at hfu ⊢
  refine lpr (fun m k (b : Nat) => fX8_cheapest_13 m 0 (nI S) (nI L.length) (nI (2 ^ fst1 S)) (nI b) (nI k) h) (fun k b => b ≤ 1000 ∧ (b < 1000 → Cv Tm b S) ∧ ∀ j, j < k → (L.getD j 0).testBit (fst1 S) = true → ∀ n, Cv Tm n (sd S (L.getD j 0)) → b ≤ n + 1) L.length (fun r => ∃ c, r = some (nI c, h) ∧ CC Tm c S) ?_ ?_ fu 0 1000 (by omega) hfu ⟨by omega, fun z => absurd z (by omega), fun j hj => absurd hj (by omega)⟩
  · rintro m b ⟨b1, b2, b3⟩
    refine ⟨b, ?_, b1, b2, fun n hn => ?_⟩
    · rw [fX8_cheapest_13, if_pos (nI_le (Nat.le_refl _) (by omega))]
    · obtain ⟨n', t, e, ht, hb, hcv⟩ := cv_pick w2 hn
      obtain ⟨j, hj, ej⟩ := List.getElem_of_mem ((lm t).mpr ht)
      have ej : L.getD j 0 = t := by rw [List.getD_eq_getElem?_getD, List.getElem?_eq_getElem hj]; exact ej
      have := b3 j hj (by rw [ej]; exact hb) n' (by rw [ej]; exact hcv)
      omega
  · rintro m k b hk ⟨b1, b2, b3⟩
    have hm := ld_mem hk
    have t8 := l8 _ hm
    have E0 := lc k hk
    generalize et : L.getD k 0 = t at hm t8 E0
    have start : fX8_cheapest_13 (m + 1) 0 (nI S) (nI L.length) (nI (2 ^ fst1 S)) (nI b) (nI k) h = if nI (t &&& 2 ^ fst1 S) = 0 then fX8_cheapest_13 m 0 (nI S) (nI L.length) (nI (2 ^ fst1 S)) (nI b) (nI (k + 1)) h else fX8_cheapest_13 m 0 (nI S) (nI L.length) (nI (2 ^ fst1 S)) (gz_mn2 (nI b) (h.2.1 76 (sd S t) + 1)) (nI (k + 1)) h := by
      have hsd : sd S t < 2 ^ 8 := sd_lt (by omega)
      rw [fX8_cheapest_13, if_neg (nI_ge hk (by omega)), ck_t (sh_0 H), rf_0_14 H, br_s, len_s (H.sh rfl) (by decide), bi_s, if_neg (nI_ge (b := 36) (by omega) (by decide)), ck_t (in_75 H (by omega)), nI_clamp (by omega), E0, nI_and, nI_nand, rf_0_15 H, br_s, ck_t (in_76 H (by omega)), nI_clamp (by omega), lt_d]
      unfold fX8_cheapest_66
      rw [nI_1]
    have al : t &&& 2 ^ fst1 S < 2 ^ 31 := Nat.lt_of_le_of_lt Nat.and_le_left (by omega)
    by_cases c : t.testBit (fst1 S) = true
    · have lt : sd S t < S := by
        rcases Nat.lt_or_ge (sd S t) S with z | z
        · exact z
        · have e : sd S t = S := Nat.le_antisymm (sb_le (sd_sub S t)) z
          have e2 : (sd S t).testBit (fst1 S) = true := by rw [e]; exact w2
          rw [sd_bit, c] at e2
          simp at e2
      obtain ⟨d, e1, d1, d2, d3⟩ := hc (sd S t) lt (fun k hk => hf k (sd_sub S t k hk))
      refine ⟨if d + 1 < b then d + 1 else b, ⟨?_, ?_, fun j hj hb n hn => ?_⟩, ?_⟩
      · by_cases z : d + 1 < b
        · rw [if_pos z]; omega
        · rw [if_neg z]; exact b1
      · by_cases z : d + 1 < b
        · rw [if_pos z]; exact fun y => ⟨t, (lm t).mp hm, d2 (by omega)⟩
        · rw [if_neg z]; exact b2
      · by_cases y : j = k
        · rw [y, et] at hn
          have := d3 n hn
          by_cases z : d + 1 < b
          · rw [if_pos z]; omega
          · rw [if_neg z]; omega
        · have := b3 j (by omega) hb n hn
          by_cases z : d + 1 < b
          · rw [if_pos z]; omega
          · rw [if_neg z]; exact this
      · rw [start, if_neg (fun z => by have := and_p.mp ((nI_z al).mp z); rw [c] at this; exact absurd this (by decide)), e1, nI_1]
        unfold gz_mn2
        by_cases z : d + 1 < b
        · rw [if_pos (nI_lt z (by omega)), if_pos z]
        · rw [if_neg (nI_nlt (by omega) (by omega)), if_neg z]
    · refine ⟨b, ⟨b1, b2, fun j hj hb n hn => ?_⟩, ?_⟩
      · by_cases y : j = k
        · rw [y, et] at hb
          exact absurd hb c
        · exact b3 j (by omega) hb n hn
      · rw [start, if_pos ((nI_z al).mpr (and_p.mpr (by simpa using c)))]
theorem x_leastL (V : XV h T E) {f : Nat} (hf : f < 2 ^ T.1) : ∃ h' c, sc h h' ∧ CC (TM T E (6 * T.2.1)) c f ∧ fX8_least 0 (nI f) h = some (if c < 1000 then nI c else -9, h') := by
  have H := V.H
  have b := V.b
  have p1 := p2_lt b.1
  obtain ⟨h1, L, e1, s1, l1, l2, l3⟩ := x_list V
  have V1 := V.sc s1
  have H1 := V1.H
  have l8 : ∀ t, t ∈ L → t < 256 := fun t ht => by
    obtain ⟨_, s, z2, z3⟩ := (l3 t).mp ht
    rw [← z3]
    exact tae_lt8 V.2.1 V.2.2.1 (by omega)
  have X : fX8_least 0 (nI f) h = fX8_least_34 gz_fu 0 (nI f) (nI L.length) (1 : Int32) (uI h1 76 0 (0 : Int32)) := by
    unfold fX8_least fX8_least_0
    rw [ck_t (sh_0 H), rf_0_9 H, br_s, ck_t (sh_28 H), x_fset_in V hf, b2_s, if_neg (by decide), ck_t (sh_0 H), rf_0_9 H, br_s, rf_0_14 H, br_s, ck_t (sh_28 H), e1, b2_s, ck_t (sh_0 H1), rf_0_15 H1, br_s, ck_t (show gz_inb h1 76 10 (0 : Int32) = true from in_76 H1 (j := 0) (by decide)), show (0 : Int32).toNatClampNeg = 0 from rfl, lt_d]
  rw [X]
  have hfu : f + 1 < 1 + gz_fu := by show f + 1 < 1 + 100000; omega
  generalize gz_fu = fu at hfu
  refine lpr (fun m S (q : gz_H) => fX8_least_34 m 0 (nI f) (nI L.length) (nI S) q) (fun S q => 1 ≤ S ∧ sc h q ∧ (∀ k, k < L.length → q.2.1 75 k = nI (L.getD k 0)) ∧ ∀ S', S' < S → sb S' f → ∃ c, q.2.1 76 S' = nI c ∧ CC (TM T E (6 * T.2.1)) c S') (f + 1) (fun r => ∃ h' c, sc h h' ∧ CC (TM T E (6 * T.2.1)) c f ∧ r = some (if c < 1000 then nI c else -9, h')) ?_ ?_ fu 1 _ (by omega) hfu ⟨Nat.le_refl _, s1.tr (sc.uI (by unfold scr; omega)), fun k hk => by rw [uI_ne (by omega)]; exact l2 k hk, fun S' hS' _ => ⟨0, by rw [show S' = 0 by omega, uI_at]; rfl, by rw [show S' = 0 by omega]; exact cc_zero⟩⟩
  · rintro m q ⟨_, q1, q2, q3⟩
    have Hq := q1.la H
    obtain ⟨c, e, cc⟩ := q3 f (by omega) (fun k hk => hk)
    refine ⟨q, c, q1, cc, ?_⟩
    have c1 := cc.1
    rw [fX8_least_34, if_pos (nI_lt (by omega) (by omega)), ck_t (sh_0 Hq), rf_0_15 Hq, br_s, ck_t (in_76 Hq (by omega)), nI_clamp (by omega), e]
    by_cases z : c < 1000
    · rw [if_pos (show nI c < (1000 : Int32) from nI_lt (b := 1000) z (by decide)), if_pos z]
    · rw [if_neg (show ¬ nI c < (1000 : Int32) from nI_nlt (b := 1000) (by omega) (by omega)), if_neg z]
  · rintro m S q hS ⟨q0, q1, q2, q3⟩
    have Hq := q1.la H
    by_cases S0 : S = 0
    · exact absurd q0 (by omega)
    · have hsd : sd S f < 2 ^ 8 := sd_lt (by omega)
      by_cases z : sd S f = 0
      · obtain ⟨c, e, cc⟩ := x_cheap Hq (by omega) q2 l3 l8 S0 (by omega) (sd_sb.mp z) q3
        refine ⟨uI q 76 S (nI c), ⟨by omega, q1.tr (sc.uI (by unfold scr; omega)), fun k hk => by rw [uI_ne (by omega)]; exact q2 k hk, fun S' hS' hb => ?_⟩, ?_⟩
        · by_cases y : S' = S
          · rw [y]; exact ⟨c, uI_at, cc⟩
          · rw [uI_ne (by omega)]; exact q3 S' (by omega) hb
        · rw [fX8_least_34, if_neg (nI_nlt (by omega) (by omega)), nI_nand, if_pos ((nI_z (by omega)).mpr z), ck_t (sh_0 Hq), rf_0_15 Hq, br_s, e, b2_s, ck_t (in_76 Hq (by omega)), nI_clamp (by omega), lt_d]
          unfold fX8_least_59
          rw [nI_1]
      · refine ⟨q, ⟨by omega, q1, q2, fun S' hS' hb => ?_⟩, ?_⟩
        · by_cases y : S' = S
          · rw [y] at hb; exact absurd (sd_sb.mpr hb) z
          · exact q3 S' (by omega) hb
        · rw [fX8_least_34, if_neg (nI_nlt (by omega) (by omega)), nI_nand, if_neg (fun y => z ((nI_z (by omega)).mp y))]
          unfold fX8_least_59
          rw [nI_1]
/-- the reference's table -/
def TB (T : gz_T) (E : gz_D) (h : gz_H) (w : Nat → Nat) (q : gz_H) : Prop := sc h q ∧ (∀ s, s < 6 * T.2.1 → q.2.1 101 s = nI (tel T E s)) ∧ (∀ k, w k ≤ 99) ∧ ∀ k, k < 256 → q.2.1 102 k = nI (w k)
theorem m_all (V : MV h T E) : fX9_allFacts 85 h = some (nI (2 ^ T.1 - 1), h) := m_allFacts V
theorem m_l69 (V : MV h T E) {f r s : Nat} (hs : s < 6 * T.2.1) {w : Nat → Nat} (k47 : Nat → Int32 → Int32 → gz_H → Option (Int32 × gz_H)) (k55 : Nat → Int32 → Int32 → Int32 → gz_H → Option (Int32 × gz_H)) {q : gz_H} (B : TB T E h w q) : ∃ q', fX9_least_69 k47 k55 gz_fu 85 (nI f) (nI r) (nI s) (0 : Int32) q = k55 85 (nI f) (nI r) (nI (s + 1)) q' ∧ TB T E h (if tel T E s = 0 then w else rlx (tel T E s) w (2 ^ T.1)) q' := by
  have b := V.b
  have p1 := p2_lt b.1
  have t8 : tel T E s < 2 ^ T.1 := tae_lt V.2.1 V.2.2.1 (by omega)
  by_cases z : tel T E s = 0
  · obtain ⟨q1, q2, q3, q4⟩ := B
    have Vq := V.sc q1
    have Hq := Vq.H
    refine ⟨q, ?_, by rw [if_pos z]; exact ⟨q1, q2, q3, q4⟩⟩
    show fX9_least_69 k47 k55 (99999 + 1) 85 (nI f) (nI r) (nI s) (nI 0) q = _
    rw [fX9_least_69, ck_t (sh_85 Hq), m_all Vq, b2_s, if_neg (nI_nlt (by omega) (by omega)), ck_t (sh_85 Hq), rf_85_27 Hq, br_s, ck_t (in_101 Hq (by omega)), nI_clamp (by omega), q2 s hs, if_pos (by rw [z]; rfl)]
    unfold fX9_least_156
    rw [nI_1]
  · rw [if_neg z]
    have hfu : 2 ^ T.1 < 0 + gz_fu := by show 2 ^ T.1 < 0 + 100000; omega
    generalize gz_fu = fu at hfu
    refine lpr (fun m k (q : gz_H) => fX9_least_69 k47 k55 m 85 (nI f) (nI r) (nI s) (nI k) q) (fun k q => TB T E h (rlx (tel T E s) w k) q) (2 ^ T.1) (fun x => ∃ q', x = k55 85 (nI f) (nI r) (nI (s + 1)) q' ∧ TB T E h (rlx (tel T E s) w (2 ^ T.1)) q') ?_ ?_ fu 0 q (by omega) hfu B
    · rintro m q B
      have Vq := V.sc B.1
      have Hq := Vq.H
      refine ⟨q, ?_, B⟩
      rw [fX9_least_69, ck_t (sh_85 Hq), m_all Vq, b2_s, if_pos (nI_lt (by omega) (by omega))]
      unfold fX9_least_156
      rw [nI_1]
    · rintro m k q hk ⟨q1, q2, q3, q4⟩
      have Vq := V.sc q1
      have Hq := Vq.H
      have kt : k ||| tel T E s < 2 ^ T.1 := Nat.or_lt_two_pow hk t8
      have w1 := q3 (k ||| tel T E s)
      have w2 := q3 k
      have e1 := q4 (k ||| tel T E s) (by omega)
      have e2 := q4 k (by omega)
      have er : rlx (tel T E s) w (k + 1) = r1 (tel T E s) (rlx (tel T E s) w k) k := rfl
      refine ⟨uI q 102 (k ||| tel T E s) (nI (rlx (tel T E s) w (k + 1) (k ||| tel T E s))), ⟨q1.tr (sc.uI (by unfold scr; omega)), fun s' hs' => by rw [uI_ne (by omega)]; exact q2 s' hs', fun j => Nat.le_trans (r1_le j) (q3 j), fun j hj => ?_⟩, ?_⟩
      · by_cases y : j = k ||| tel T E s
        · rw [y, uI_at]
        · rw [uI_ne (by omega), q4 j hj, er]
          unfold r1
          rw [vu_ne y]
      · rw [fX9_least_69, ck_t (sh_85 Hq), m_all Vq, b2_s, if_neg (nI_nlt (by omega) (by omega)), ck_t (sh_85 Hq), rf_85_27 Hq, br_s, ck_t (in_101 Hq (by omega)), nI_clamp (by omega), q2 s hs, if_neg (fun y => z ((nI_z (by omega)).mp y)), rf_85_28 Hq, br_s, ck_t (in_102 Hq (by omega)), nI_or, ck_t (in_102 Hq (by omega)), nI_clamp (by omega), nI_clamp (by omega), e1, e2, nI_1, er]
        unfold fX9_least_149 r1
        rw [vu_at, nI_clamp (by omega), nI_1, ck_t (in_102 Hq (by omega)), lt_d, lt_d]
        by_cases y : rlx (tel T E s) w k (k ||| tel T E s) ≤ rlx (tel T E s) w k k + 1
        · rw [if_pos (nI_le y (by omega)), if_pos y]
        · rw [if_neg (nI_ge (by omega) (by omega)), if_neg y, ck_t (in_102 Hq (by omega))]
theorem m_l55 (V : MV h T E) {f r : Nat} {w : Nat → Nat} (k47 : Nat → Int32 → Int32 → gz_H → Option (Int32 × gz_H)) {q : gz_H} (B : TB T E h w q) : ∃ q', fX9_least_55 k47 gz_fu 85 (nI f) (nI r) (0 : Int32) q = k47 85 (nI f) (nI (r + 1)) q' ∧ TB T E h (rs (tel T E) (2 ^ T.1) w (6 * T.2.1)) q' := by
  have b := V.b
  have hfu : 6 * T.2.1 < 0 + gz_fu := by show 6 * T.2.1 < 0 + 100000; omega
  generalize ef : gz_fu = fu at hfu
  refine lpr (fun m s (q : gz_H) => fX9_least_55 k47 m 85 (nI f) (nI r) (nI s) q) (fun s q => TB T E h (rs (tel T E) (2 ^ T.1) w s) q) (6 * T.2.1) (fun x => ∃ q', x = k47 85 (nI f) (nI (r + 1)) q' ∧ TB T E h (rs (tel T E) (2 ^ T.1) w (6 * T.2.1)) q') ?_ ?_ fu 0 q (by omega) hfu B
  · rintro m q B
    have Vq := V.sc B.1
    have Hq := Vq.H
    refine ⟨q, ?_, B⟩
    rw [fX9_least_55, ck_t (sh_85 Hq), Vq.n, show (6 : Int32) = nI 6 from rfl, pk_mul, if_pos (nI_le (Nat.le_refl _) (by omega)), nI_1]
  · rintro m s q hs B
    have Vq := V.sc B.1
    have Hq := Vq.H
    obtain ⟨q', e, B'⟩ := m_l69 V (f := f) (r := r) hs k47 (fun z0 z1 z2 z3 zh => fX9_least_55 k47 m z0 z1 z2 z3 zh) B
    refine ⟨q', by rw [rs]; exact B', ?_⟩
    rw [fX9_least_55, ck_t (sh_85 Hq), Vq.n, show (6 : Int32) = nI 6 from rfl, pk_mul, if_neg (nI_ge hs (by omega)), e]
def w0 (k : Nat) : Nat := if k = 0 then 0 else 99
theorem m_leastL (V : MV h T E) {f : Nat} (hf : f < 2 ^ T.1) : ∃ h', sc h h' ∧ fX9_least 85 (nI f) h = some (if lsF (rr (tel T E) (2 ^ T.1) (6 * T.2.1) w0 8) f (2 ^ T.1) ≤ 98 then nI (lsF (rr (tel T E) (2 ^ T.1) (6 * T.2.1) w0 8) f (2 ^ T.1)) else -9, h') := by
  have H := V.H
  have b := V.b
  have p1 := p2_lt b.1
  obtain ⟨h1, e1, s1, sy⟩ := m_laySays V
  have sy' : ∀ s, s < 6 * T.2.1 → h1.2.1 101 s = nI (tel T E s) := fun s hs => by
    have := sy (s / 6) (s % 6) (by omega) (by omega)
    rw [show 6 * (s / 6) + s % 6 = s by omega] at this
    exact this
  have X : fX9_least 85 (nI f) h = fX9_least_16 gz_fu 85 (nI f) (0 : Int32) h1 := by
    unfold fX9_least fX9_least_0
    rw [ck_t (sh_85 H), m_set_in V hf, b2_s, if_neg (by decide), ck_t (sh_85 H), e1, b2_s]
  rw [X]
  have A1 : ∃ q, fX9_least_16 gz_fu 85 (nI f) (0 : Int32) h1 = fX9_least_47 gz_fu 85 (nI f) (0 : Int32) q ∧ TB T E h w0 q := by
    have hfu : 256 < 0 + gz_fu := by show 256 < 0 + 100000; omega
    generalize ef : gz_fu = fu at hfu
    refine lpr (fun m k (q : gz_H) => fX9_least_16 m 85 (nI f) (nI k) q) (fun k q => sc h q ∧ (∀ s, s < 6 * T.2.1 → q.2.1 101 s = nI (tel T E s)) ∧ ∀ j, j < k → q.2.1 102 j = nI (w0 j)) 256 (fun x => ∃ q, x = fX9_least_47 fu 85 (nI f) (0 : Int32) q ∧ TB T E h w0 q) ?_ ?_ fu 0 h1 (by omega) hfu ⟨s1, sy', fun j hj => absurd hj (by omega)⟩
    · rintro m q ⟨q1, q2, q3⟩
      refine ⟨q, ?_, q1, q2, fun k => ?_, q3⟩
      · rw [fX9_least_16, if_pos (by decide), ef]
      · unfold w0
        by_cases z : k = 0
        · rw [if_pos z]; omega
        · rw [if_neg z]; omega
    · rintro m k q hk ⟨q1, q2, q3⟩
      have Hq := q1.la H
      refine ⟨uI q 102 k (nI (w0 k)), ⟨q1.tr (sc.uI (by unfold scr; omega)), fun s hs => by rw [uI_ne (by omega)]; exact q2 s hs, fun j hj => ?_⟩, ?_⟩
      · by_cases y : j = k
        · rw [y, uI_at]
        · rw [uI_ne (by omega)]; exact q3 j (by omega)
      · rw [fX9_least_16, if_neg (show ¬ (256 : Int32) ≤ nI k from nI_ge hk (by decide)), ck_t (sh_85 Hq), rf_85_28 Hq, br_s]
        unfold fX9_least_38 w0
        rw [ck_t (in_102 Hq hk), nI_clamp (by omega), lt_d, lt_d, nI_1]
        by_cases z : k = 0
        · rw [if_pos ((nI_z (by omega)).mpr z), if_pos z]; rfl
        · rw [if_neg (fun y => z ((nI_z (by omega)).mp y)), if_neg z, ck_t (in_102 Hq hk)]; rfl
  obtain ⟨q, e2, B⟩ := A1
  rw [e2]
  have A2 : ∃ q', fX9_least_47 gz_fu 85 (nI f) (0 : Int32) q = fX9_least_173 gz_fu 85 (nI f) (99 : Int32) (0 : Int32) q' ∧ TB T E h (rr (tel T E) (2 ^ T.1) (6 * T.2.1) w0 8) q' := by
    have hfu : 8 < 0 + gz_fu := by show 8 < 0 + 100000; omega
    generalize ef : gz_fu = fu at hfu
    refine lpr (fun m r (q : gz_H) => fX9_least_47 m 85 (nI f) (nI r) q) (fun r q => TB T E h (rr (tel T E) (2 ^ T.1) (6 * T.2.1) w0 r) q) 8 (fun x => ∃ q', x = fX9_least_173 fu 85 (nI f) (99 : Int32) (0 : Int32) q' ∧ TB T E h (rr (tel T E) (2 ^ T.1) (6 * T.2.1) w0 8) q') ?_ ?_ fu 0 q (by omega) hfu B
    · rintro m q B
      refine ⟨q, ?_, B⟩
      rw [fX9_least_47, if_pos (by decide), ef]
    · rintro m r q hr B
      obtain ⟨q', e, B'⟩ := m_l55 V (f := f) (r := r) (fun z0 z1 z2 zh => fX9_least_47 m z0 z1 z2 zh) B
      refine ⟨q', B', ?_⟩
      rw [fX9_least_47, if_neg (show ¬ (8 : Int32) ≤ nI r from nI_ge hr (by decide)), e]
  obtain ⟨q', e3, B'⟩ := A2
  rw [e3]
  generalize rr (tel T E) (2 ^ T.1) (6 * T.2.1) w0 8 = w at B'
  obtain ⟨q1, q2, q3, q4⟩ := B'
  have Vq := V.sc q1
  have Hq := Vq.H
  refine ⟨q', q1, ?_⟩
  have hfu : 2 ^ T.1 < 0 + gz_fu := by show 2 ^ T.1 < 0 + 100000; omega
  generalize ef : gz_fu = fu at hfu
  refine lp (fun m k (y : Int32) => fX9_least_173 m 85 (nI f) y (nI k) q') (fun k => nI (lsF w f k)) (2 ^ T.1) _ ?_ ?_ fu 0 (by omega) hfu
  · intro m
    have l := ls_le (w := w) (S := f) (2 ^ T.1)
    rw [fX9_least_173, ck_t (sh_85 Hq), m_all Vq, b2_s, if_pos (nI_lt (by omega) (by omega))]
    by_cases z : lsF w f (2 ^ T.1) ≤ 98
    · rw [if_pos (show nI (lsF w f (2 ^ T.1)) ≤ (98 : Int32) from nI_le (b := 98) z (by decide)), if_pos z]
    · rw [if_neg (show ¬ nI (lsF w f (2 ^ T.1)) ≤ (98 : Int32) from nI_ge (a := 98) (by omega) (by omega)), if_neg z]
  · intro m k hk
    have l := ls_le (w := w) (S := f) k
    have wk := q3 k
    have hsd : sd f k < 2 ^ 8 := sd_lt (by omega)
    rw [fX9_least_173, ck_t (sh_85 Hq), m_all Vq, b2_s, if_neg (nI_nlt (by omega) (by omega)), nI_nand, lsF]
    unfold fX9_least_208 fX9_least_209
    rw [nI_1]
    by_cases z : sd f k = 0
    · rw [if_pos ((nI_z (by omega)).mpr z), ck_t (sh_85 Hq), rf_85_28 Hq, br_s, ck_t (in_102 Hq (by omega)), nI_clamp (by omega), q4 k (by omega)]
      by_cases y : lsF w f k ≤ w k
      · rw [if_pos (nI_le y (by omega)), if_neg (fun u => u.2 y)]
      · rw [if_neg (nI_ge (by omega) (by omega)), if_pos ⟨z, y⟩]
    · rw [if_neg (fun y => z ((nI_z (by omega)).mp y)), if_neg (fun u => z u.1)]
theorem op_least (I : gz_Iv h) (x1 : Int32) : gz_ag (fX8_least 0 x1) (fX9_least 85 x1) h gz_Iv := by
  obtain ⟨T, D, ds, ks, sa, F⟩ := I.2
  have V := F.xv I.1.1
  have W := F.mv I.1.1
  have H := V.H
  have b := V.b
  have p1 := p2_lt b.1
  rcases p_cases x1 (2 ^ T.1) (by omega) with hx | ⟨f, hf, rfl⟩
  · refine ag_no I (y := -1) ?_ ?_
    · unfold fX8_least fX8_least_0
      rw [ck_t (sh_0 H), rf_0_9 H, br_s, ck_t (sh_28 H), x_fset_out V hx, b2_s, if_pos (by decide)]
    · unfold fX9_least fX9_least_0
      rw [ck_t (sh_85 H), m_set_out W hx, b2_s, if_pos (by decide)]
  · obtain ⟨h1, c, s1, cc, e1⟩ := x_leastL V hf
    obtain ⟨h2, s2, e2⟩ := m_leastL (W.sc s1) hf
    have L := least_eq (b := T.1) (N := 6 * T.2.1) (tl := tel T (rn T D ds)) (w := w0) b.1 hf rfl (fun k hk => if_neg hk) (fun t => Iff.rfl) (fun s hs => tae_lt V.2.1 V.2.2.1 (by omega)) cc
    refine q_same I (v := if c < 1000 then nI c else -9) fun _ _ _ _ => ⟨h1, h2, e1, s1, ?_, s2⟩
    rw [e2]
    rcases L with ⟨l1, l2, l3⟩ | ⟨l1, l2⟩
    · rw [l2, if_pos (by omega), if_pos l1]
    · rw [l2, if_neg (by omega), if_neg (by omega)]
end
