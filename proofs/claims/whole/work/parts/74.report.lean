/-! PURE: reports; kinds agrees -/
/-- what is told at places is as the pairs say -/
def fit (pp ss tl : Nat → Nat) : Nat → Bool
  | 0 => true
  | k + 1 => fit pp ss tl k && decide (tl (pp k) = ss k)
def enS : Option Nat → Int32
  | none => -1
  | some v => nI v
theorem enS_n : enS none = (-1 : Int32) := rfl
def RP (h : gz_H) (pp ss : Nat → Nat) (k : Nat) : Prop := ∃ (c : Bool) (S : Nat → Option Nat), h.2.1 21 1 = nI (if c = true then 1 else 0) ∧ (∀ p, p < 6 → h.2.1 22 p = enS (S p)) ∧ (∀ p v, S p = some v → v < 256) ∧ ∀ tl : Nat → Nat, (c = false ∧ ∀ p, p < 6 → ∀ v, S p = some v → v = tl p) ↔ fit pp ss tl k = true
theorem fst_bad (B : Nat → Prop) : ∀ M : Nat, (∀ k, k < M → ¬ B k) ∨ ∃ k, k < M ∧ B k ∧ ∀ j, j < k → ¬ B j := by
  intro M
  induction M with
  | zero => exact Or.inl fun k hk => absurd hk (by omega)
  | succ M ih =>
    rcases ih with a | ⟨k, h1, h2, h3⟩
    · rcases Classical.em (B M) with b | b
      · exact Or.inr ⟨M, by omega, b, a⟩
      · refine Or.inl fun k hk => ?_
        by_cases e : k = M
        · rw [e]; exact b
        · exact a k (by omega)
    · exact Or.inr ⟨k, by omega, h2, h3⟩
section
variable {h : gz_H} {T : gz_T} {E : gz_D}
theorem n_p1 (k : Nat) : nI (2 * k) + (1 : Int32) = nI (2 * k + 1) := nI_1 _
theorem n_p2 (k : Nat) : nI (2 * k) + 2 = nI (2 * (k + 1)) := by rw [show (2 : Int32) = nI 2 from rfl, nI_add]; rfl
theorem x_rr_ok (V : XV h T E) {r k M m : Nat} (hr : r < 6) (hk : k < M) (hM : M ≤ 20) {p s : Nat} (hp : p < 6) (hs : s < 2 ^ T.1) (e1 : h.2.1 (3 + r) (2 * k) = nI p) (e2 : h.2.1 (3 + r) (2 * k + 1) = nI s) : fX8_readReport_58 (m + 1) 0 (nI (2 * M)) (3 + r) (nI (2 * k)) h = fX8_readReport_58 m 0 (nI (2 * M)) (3 + r) (nI (2 * (k + 1))) h := by
  have H := V.H
  have sr := sh_r H hr
  rw [fX8_readReport_58, n_p1, if_neg (nI_ge (by omega) (by omega)), ck_t (inb_nI sr (by omega) (by decide)), nI_clamp (by omega), e1, if_neg (nI_pos (by omega)), if_neg (show ¬ (6 : Int32) ≤ nI p from nI_ge hp (by decide))]
  unfold fX8_readReport_87
  rw [if_neg (by decide), ck_t (sh_0 H), rf_0_9 H, br_s, n_p1, ck_t (inb_nI sr (by omega) (by decide)), ck_t (sh_28 H), nI_clamp (by omega), e2, x_fset_in V hs, b2_s, if_neg (by decide), n_p2]
theorem x_rr_bad (V : XV h T E) {r k M m : Nat} (hr : r < 6) (hk : k < M) (hM : M ≤ 20) (bad : p_out (h.2.1 (3 + r) (2 * k)) 6 ∨ p_out (h.2.1 (3 + r) (2 * k + 1)) (2 ^ T.1)) : fX8_readReport_58 (m + 1) 0 (nI (2 * M)) (3 + r) (nI (2 * k)) h = some (-3, gz_xf h 3) := by
  have H := V.H
  have sr := sh_r H hr
  have e110 : fX8_readReport_110 0 h = some (-3, gz_xf h 3) := by
    unfold fX8_readReport_110
    rw [ck_t (sh_0 H), rf_0_3 H, br_s, ck_t (sh_18 H), show (3 : Int32) = nI 3 from rfl, p_answer H (by decide), b2_s]
    rfl
  rw [fX8_readReport_58, n_p1, if_neg (nI_ge (by omega) (by omega)), ck_t (inb_nI sr (by omega) (by decide)), nI_clamp (by omega)]
  unfold fX8_readReport_86 fX8_readReport_87
  rcases p_cases (h.2.1 (3 + r) (2 * k)) 6 (by decide) with q | ⟨p, hp, e1⟩
  · by_cases c : h.2.1 (3 + r) (2 * k) < 0
    · rw [if_pos c, if_pos rfl, e110]
    · rw [if_neg c, if_pos (show (6 : Int32) ≤ h.2.1 (3 + r) (2 * k) from q.resolve_left c), if_pos rfl, e110]
  · have q := bad.resolve_left (fun z => by
      rw [e1] at z
      have := p_out_toInt (by decide) z
      rw [nI_toInt (by omega)] at this
      omega)
    rw [e1, if_neg (nI_pos (by omega)), if_neg (show ¬ (6 : Int32) ≤ nI p from nI_ge hp (by decide)), if_neg (by decide), ck_t (sh_0 H), rf_0_9 H, br_s, n_p1, ck_t (inb_nI sr (by omega) (by decide)), ck_t (sh_28 H), nI_clamp (by omega), x_fset_out V q, b2_s, if_pos (by decide), e110]
/-- the pairs are read -/
theorem x_pairs (V : XV h T E) {r M : Nat} (hr : r < 6) (hM : M ≤ 20) {pp ss : Nat → Nat} (hb : ∀ k, k < M → pp k < 6 ∧ ss k < 2 ^ T.1) (hc : ∀ k, k < M → h.2.1 (3 + r) (2 * k) = nI (pp k) ∧ h.2.1 (3 + r) (2 * k + 1) = nI (ss k)) : ∃ h', fX6_readPairs 21 (3 + r) (nI (2 * M)) h = some ((), h') ∧ sc h h' ∧ RP h' pp ss M := by
  have H := V.H
  have b := V.b
  have p1 := p2_lt b.1
  unfold fX6_readPairs fX6_readPairs_0
  have H1 : gz_La (uF h 22 (fun k => if k < 6 then (-1 : Int32) else h.2.1 22 k)) := H.of rfl rfl
  rw [ck_t (sh_21 H), rf_21_0 H, br_s, p_fill (n := 6) (H.sh rfl) (by decide), b2_s, ck_t (sh_21 H1), lt_d]
  have hfu : M < 0 + gz_fu := by show M < 0 + 100000; omega
  generalize gz_fu = fu at hfu ⊢
  refine lpr (fun m k (q : gz_H) => fX6_readPairs_15 m 21 (3 + r) (nI (2 * M)) (nI (2 * k)) q) (fun k q => sc h q ∧ RP q pp ss k) M (fun x => ∃ h', x = some ((), h') ∧ sc h h' ∧ RP h' pp ss M) ?_ ?_ fu 0 _ (by omega) hfu ⟨(sc.uF (fun k => by unfold scr; omega)).tr (sc.uI (by unfold scr; omega)), false, fun _ => none, uI_at, fun p hp => by rw [uI_ne (by omega), uF_I, if_pos rfl, if_pos hp]; rfl, fun p v e => absurd e (by simp), fun tl => ⟨fun _ => rfl, fun _ => ⟨rfl, fun p _ v e => absurd e (by simp)⟩⟩⟩
  · intro m q ⟨q1, q2⟩
    refine ⟨q, ?_, q1, q2⟩
    rw [fX6_readPairs_15, n_p1, if_pos (nI_le (by omega) (by omega))]
  · intro m k q hk ⟨q1, c, S, r1, r2, r3, r4⟩
    have Hq := q1.la H
    have sr := sh_r Hq hr
    obtain ⟨bp, bs⟩ := hb k hk
    have d1 : q.2.1 (3 + r) (2 * k) = nI (pp k) := by rw [q1.2.2 _ _ (by unfold scr; omega)]; exact (hc k hk).1
    have d2 : q.2.1 (3 + r) (2 * k + 1) = nI (ss k) := by rw [q1.2.2 _ _ (by unfold scr; omega)]; exact (hc k hk).2
    have sp := r2 (pp k) bp
    -- the write
    have K : ∀ (kk : Nat → Nat → Int32 → Int32 → gz_H → Option (Unit × gz_H)) (u : gz_H), gz_La u → u.2.1 (3 + r) (2 * k + 1) = nI (ss k) → fX6_readPairs_58 kk 21 (3 + r) (nI (2 * M)) (nI (2 * k)) (nI (pp k)) u = kk 21 (3 + r) (nI (2 * M)) (nI (2 * (k + 1))) (uI u 22 (pp k) (nI (ss k))) := by
      intro kk u Hu du
      unfold fX6_readPairs_58
      rw [ck_t (sh_21 Hu), rf_21_0 Hu, br_s, n_p1, ck_t (inb_nI (sh_r Hu hr) (by omega) (by decide)), ck_t (in_22 Hu bp), nI_clamp (by omega), nI_clamp (by omega), lt_d, du, n_p2]
    have start : fX6_readPairs_15 (m + 1) 21 (3 + r) (nI (2 * M)) (nI (2 * k)) q = if enS (S (pp k)) = (-1 : Int32) then fX6_readPairs_15 m 21 (3 + r) (nI (2 * M)) (nI (2 * (k + 1))) (uI q 22 (pp k) (nI (ss k))) else if enS (S (pp k)) = nI (ss k) then fX6_readPairs_15 m 21 (3 + r) (nI (2 * M)) (nI (2 * (k + 1))) (uI q 22 (pp k) (nI (ss k))) else fX6_readPairs_15 m 21 (3 + r) (nI (2 * M)) (nI (2 * (k + 1))) (uI (uI q 21 1 1) 22 (pp k) (nI (ss k))) := by
      rw [fX6_readPairs_15, n_p1, if_neg (nI_ge (by omega) (by omega)), ck_t (inb_nI sr (by omega) (by decide)), ck_t (sh_21 Hq), rf_21_0 Hq, br_s, nI_clamp (by omega), d1, ck_t (in_22 Hq bp), nI_clamp (by omega), sp, ck_t (inb_nI sr (by omega) (by decide)), nI_clamp (by omega), d2, lt_d, K _ q Hq d2, K _ (uI q 21 1 1) (Hq.of rfl rfl) (by rw [uI_ne (by omega)]; exact d2)]
    -- what is known then
    have fin : ∀ (u : gz_H) (c' : Bool), sc h u → u.2.1 21 1 = nI (if c' = true then 1 else 0) → (∀ p, u.2.1 22 p = q.2.1 22 p) → (c' = false ↔ (c = false ∧ ∀ v, S (pp k) = some v → v = ss k)) → sc h (uI u 22 (pp k) (nI (ss k))) ∧ RP (uI u 22 (pp k) (nI (ss k))) pp ss (k + 1) := by
      intro u c' s1 u1 u2 hc'
      refine ⟨s1.tr (sc.uI (by unfold scr; omega)), c', fun p => if p = pp k then some (ss k) else S p, by rw [uI_ne (by omega)]; exact u1, fun p hp => ?_, fun p v e => ?_, fun tl => ?_⟩
      · show _ = enS (if p = pp k then some (ss k) else S p)
        by_cases z : p = pp k
        · rw [z, uI_at, if_pos rfl]; rfl
        · rw [uI_ne (by omega), u2, if_neg z]; exact r2 p hp
      · have e : (if p = pp k then some (ss k) else S p) = some v := e
        by_cases z : p = pp k
        · rw [if_pos z] at e
          have := Option.some.inj e
          omega
        · rw [if_neg z] at e
          exact r3 p v e
      · have e : fit pp ss tl (k + 1) = (fit pp ss tl k && decide (tl (pp k) = ss k)) := rfl
        rw [e, Bool.and_eq_true, ← r4 tl, decide_eq_true_eq, hc']
        constructor
        · rintro ⟨⟨z1, z2⟩, z3⟩
          have t := z3 (pp k) bp (ss k) (by show (if pp k = pp k then some (ss k) else S (pp k)) = _; rw [if_pos rfl])
          refine ⟨⟨z1, fun p hp v e => ?_⟩, t.symm⟩
          by_cases y : p = pp k
          · rw [y] at e ⊢
            rw [z2 v e]; exact t
          · exact z3 p hp v (by show (if p = pp k then some (ss k) else S p) = _; rw [if_neg y]; exact e)
        · rintro ⟨⟨z1, z2⟩, z3⟩
          refine ⟨⟨z1, fun v e => ?_⟩, fun p hp v e => ?_⟩
          · rw [z2 (pp k) bp v e, z3]
          · have e : (if p = pp k then some (ss k) else S p) = some v := e
            by_cases y : p = pp k
            · rw [if_pos y] at e
              rw [y, z3]; exact (Option.some.inj e).symm
            · rw [if_neg y] at e
              exact z2 p hp v e
    rw [start]
    cases hS : S (pp k) with
    | none =>
      obtain ⟨f1, f2⟩ := fin q c q1 r1 (fun _ => rfl) ⟨fun z => ⟨z, fun v e => by rw [hS] at e; exact absurd e (by simp)⟩, fun z => z.1⟩
      exact ⟨_, ⟨f1, f2⟩, by rw [if_pos enS_n]⟩
    | some v =>
      have hv := r3 _ _ hS
      have ev : enS (some v) = nI v := rfl
      rw [ev, if_neg (n_ne v (by omega))]
      by_cases z : v = ss k
      · obtain ⟨f1, f2⟩ := fin q c q1 r1 (fun _ => rfl) ⟨fun y => ⟨y, fun v' e => by rw [hS] at e; rw [← Option.some.inj e]; exact z⟩, fun y => y.1⟩
        exact ⟨_, ⟨f1, f2⟩, by rw [if_pos (congrArg nI z)]⟩
      · obtain ⟨f1, f2⟩ := fin (uI q 21 1 1) true (q1.tr (sc.uI (by unfold scr; omega))) uI_at (fun p => uI_ne (by omega)) ⟨fun y => absurd y (by decide), fun y => absurd (y.2 v hS) z⟩
        exact ⟨_, ⟨f1, f2⟩, by rw [if_neg (fun y => z ((nI_eq (by omega) (by omega)).mp y))]⟩
theorem x_fits (H : gz_La h) {g : Nat} {kd : Int32} {pp ss tl : Nat → Nat} {M : Nat} (R : RP h pp ss M) (hg : gz_sh h g 2 6 = true) (hT : ∀ p, p < 6 → fX2_toldAs g kd (nI p) 29 h = some (nI (tl p), h)) (ht : ∀ p, p < 6 → tl p < 256) : fX6_fits 21 g kd 29 h = some (nI (if fit pp ss tl M = true then 1 else 0), h) := by
  obtain ⟨c, S, r1, r2, r3, r4⟩ := R
  have r4 := r4 tl
  unfold fX6_fits fX6_fits_0
  rw [ck_t (sh_21 H), r1]
  cases c with
  | true =>
    rw [if_neg (by decide), if_neg (fun z => absurd (r4.mpr z).1 (by decide))]
    rfl
  | false =>
    rw [if_pos (by decide)]
    have A : ∀ n p, p ≤ 6 → 6 < p + n → (∀ q, q < p → ∀ v, S q = some v → v = tl q) → fX6_fits_12 n 21 g kd 29 (nI p) h = some (nI (if fit pp ss tl M = true then 1 else 0), h) := by
      intro n
      induction n with
      | zero => intro p h1 h2; omega
      | succ n ih =>
        intro p h1 h2 hq
        rw [fX6_fits_12]
        by_cases e : p = 6
        · subst e
          rw [if_pos (by decide), if_pos (r4.mp ⟨rfl, hq⟩)]
          rfl
        · have hp : p < 6 := by omega
          have hl := ht p hp
          rw [if_neg (show ¬ (6 : Int32) ≤ nI p from nI_ge hp (by decide)), ck_t (sh_21 H), rf_21_0 H, br_s, ck_t (in_22 H hp), nI_clamp (by omega), r2 p hp]
          unfold fX6_fits_50
          rw [nI_1]
          cases hS : S p with
          | none =>
            rw [if_pos enS_n]
            exact ih (p + 1) (by omega) (by omega) (fun q hq1 v e => by
              by_cases z : q = p
              · rw [z, hS] at e; exact absurd e (by simp)
              · exact hq q (by omega) v e)
          | some v =>
            have hv := r3 _ _ hS
            have ev : enS (some v) = nI v := rfl
            rw [ev, if_neg (n_ne v (by omega)), ck_t hg, hT p hp, b2_s]
            by_cases z : v = tl p
            · rw [if_pos (congrArg nI z)]
              exact ih (p + 1) (by omega) (by omega) (fun q hq1 v' e => by
                by_cases y : q = p
                · rw [y, hS] at e; rw [y, ← Option.some.inj e]; exact z
                · exact hq q (by omega) v' e)
            · rw [if_neg (fun y => z ((nI_eq (by omega) (by omega)).mp y)), if_neg (fun y => z ((r4.mpr y).2 p hp v hS))]
              rfl
    exact A gz_fu 0 (by omega) (by show 6 < 0 + 100000; omega) (fun q hq => absurd hq (by omega))
theorem fit_mono {pp ss tl : Nat → Nat} {k : Nat} (e : fit pp ss tl k = false) : ∀ j, fit pp ss tl (k + j) = false := by
  intro j
  induction j with
  | zero => exact e
  | succ j ih =>
    show (fit pp ss tl (k + j) && _) = false
    rw [ih, Bool.false_and]
theorem m_isSo (H : gz_La h) {r M : Nat} (hr : r < 6) (hM : M ≤ 20) {pp ss tl : Nat → Nat} {kd mo : Int32} (hz : h.2.1 91 r = nI (2 * M)) (hc : ∀ k, k < M → h.2.1 92 (40 * r + 2 * k) = nI (pp k) ∧ h.2.1 92 (40 * r + 2 * k + 1) = nI (ss k)) (hb : ∀ k, k < M → pp k < 6 ∧ ss k < 256) (hT : ∀ p, p < 6 → fX9_tellsTried 85 kd mo (nI p) h = some (nI (tl p), h)) (ht : ∀ p, p < 6 → tl p < 256) : fX9_isSo 85 kd mo (nI r) h = some (nI (if fit pp ss tl M = true then 1 else 0), h) := by
  unfold fX9_isSo fX9_isSo_0
  have A : ∀ n k, k ≤ M → M < k + n → fX9_isSo_6 n 85 kd mo (nI r) (nI (if fit pp ss tl k = true then 1 else 0)) (nI (2 * k)) h = some (nI (if fit pp ss tl M = true then 1 else 0), h) := by
    intro n
    induction n with
    | zero => intro k h1 h2; omega
    | succ n ih =>
      intro k h1 h2
      rw [fX9_isSo_6, ck_t (sh_85 H), rf_85_7 H, br_s, ck_t (in_91 H hr), nI_clamp (by omega), hz]
      have bo : ∀ b : Bool, gz_bo (nI (if b = true then 1 else 0)) = true := by intro b; cases b <;> rfl
      by_cases e : k = M
      · subst e
        rw [if_pos (nI_le (Nat.le_refl _) (by omega)), ck_t (bo _)]
      · have hk : k < M := by omega
        obtain ⟨bp, bs⟩ := hb k hk
        have tp := ht _ bp
        rw [if_neg (nI_ge (by omega) (by omega))]
        cases hf : fit pp ss tl k with
        | false =>
          have := fit_mono hf (M - k)
          rw [show k + (M - k) = M by omega] at this
          rw [this, if_pos (show nI (if false = true then 1 else 0) = 0 from rfl), ck_t (bo false)]
        | true =>
          have ef : fit pp ss tl (k + 1) = decide (tl (pp k) = ss k) := by show (fit pp ss tl k && _) = _; rw [hf, Bool.true_and]
          have ih' := ih (k + 1) (by omega) (by omega)
          rw [ef] at ih'
          rw [if_pos rfl, if_neg (by decide), rf_85_8 H, br_s, show (40 : Int32) = nI 40 from rfl, n_mul, ck_t (in_92 H (by omega)), nI_clamp (by omega), (hc k hk).1, hT _ bp, b2_s, ck_t (sh_85 H), rf_85_8 H, br_s, nI_1, ck_t (in_92 H (by omega)), nI_clamp (by omega), (hc k hk).2]
          unfold fX9_isSo_62
          rw [n_p2]
          by_cases z : tl (pp k) = ss k
          · rw [if_pos (congrArg nI z)]
            rw [decide_eq_true z] at ih'
            exact ih'
          · rw [if_neg (fun y => z ((nI_eq (by omega) (by omega)).mp y))]
            rw [decide_eq_false z] at ih'
            exact ih'
  exact A gz_fu 0 (by omega) (by show M < 0 + 100000; omega)
end
