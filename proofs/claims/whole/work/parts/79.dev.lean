section
/-! PURE: reports; kinds agrees -/
/-- what is told at places is as the pairs say -/
def fit (pp ss tl : Nat → Nat) : Nat → Bool
  | 0 => true
  | k + 1 => fit pp ss tl k && decide (tl (pp k) = ss k)
def enS : Option Nat → Int32
  | none => -1
  | some v => nI v
theorem enS_n : enS none = (-1 : Int32) := rfl
def RP (h : gz_H) (pp ss : Nat → Nat) (k : Nat) : Prop := ∃ (c : Bool) (S : Nat → Option Nat), h.2.1 21 1 = nI (if c = true then 1 else 0) ∧ (∀ p, p < 6 → h.2.1 22 p = enS (S p)) ∧ (∀ p v, S p = some v → v < 256) ∧ ∀ tl : Nat → Nat, (c = false ∧ ∀ p, p < 6 → ∀ v, S p = some v → v = tl p) ↔ fit pp ss tl k = true
theorem fst_bad (B : Nat → Prop) : ∀ M : Nat, (∀ k, k < M → ¬ B k) ∨ ∃ k, k < M ∧ B k ∧ ∀ j, j < k → ¬ B j := by
  intro M
  induction M with
  | zero => exact Or.inl fun k hk => absurd hk (by omega)
  | succ M ih =>
    rcases ih with a | ⟨k, h1, h2, h3⟩
    · rcases Classical.em (B M) with b | b
      · exact Or.inr ⟨M, by omega, b, a⟩
      · refine Or.inl fun k hk => ?_
        by_cases e : k = M
        · rw [e]; exact b
        · exact a k (by omega)
    · exact Or.inr ⟨k, by omega, h2, h3⟩
section
variable {h : gz_H} {T : gz_T} {E : gz_D}
theorem n_p1 (k : Nat) : nI (2 * k) + (1 : Int32) = nI (2 * k + 1) := nI_1 _
theorem n_p2 (k : Nat) : nI (2 * k) + 2 = nI (2 * (k + 1)) := by rw [show (2 : Int32) = nI 2 from rfl, nI_add]; rfl
theorem x_rr_ok (V : XV h T E) {r k M m : Nat} (hr : r < 6) (hk : k < M) (hM : M ≤ 20) {p s : Nat} (hp : p < 6) (hs : s < 2 ^ T.1) (e1 : h.2.1 (3 + r) (2 * k) = nI p) (e2 : h.2.1 (3 + r) (2 * k + 1) = nI s) : fX8_readReport_58 (m + 1) 0 (nI (2 * M)) (3 + r) (nI (2 * k)) h = fX8_readReport_58 m 0 (nI (2 * M)) (3 + r) (nI (2 * (k + 1))) h := by
  have H := V.H
  have sr := sh_r H hr
  rw [fX8_readReport_58, n_p1, if_neg (nI_ge (by omega) (by omega)), ck_t (inb_nI sr (by omega) (by decide)), nI_clamp (by omega), e1, if_neg (nI_pos (by omega)), if_neg (show ¬ (6 : Int32) ≤ nI p from nI_ge hp (by decide))]
  unfold fX8_readReport_87
  rw [if_neg (by decide), ck_t (sh_0 H), rf_0_9 H, br_s, n_p1, ck_t (inb_nI sr (by omega) (by decide)), ck_t (sh_28 H), nI_clamp (by omega), e2, x_fset_in V hs, b2_s, if_neg (by decide), n_p2]
theorem x_rr_bad (V : XV h T E) {r k M m : Nat} (hr : r < 6) (hk : k < M) (hM : M ≤ 20) (bad : p_out (h.2.1 (3 + r) (2 * k)) 6 ∨ p_out (h.2.1 (3 + r) (2 * k + 1)) (2 ^ T.1)) : fX8_readReport_58 (m + 1) 0 (nI (2 * M)) (3 + r) (nI (2 * k)) h = some (-3, gz_xf h 3) := by
  have H := V.H
  have sr := sh_r H hr
  have e110 : fX8_readReport_110 0 h = some (-3, gz_xf h 3) := by
    unfold fX8_readReport_110
    rw [ck_t (sh_0 H), rf_0_3 H, br_s, ck_t (sh_18 H), show (3 : Int32) = nI 3 from rfl, p_answer H (by decide), b2_s]
    rfl
  rw [fX8_readReport_58, n_p1, if_neg (nI_ge (by omega) (by omega)), ck_t (inb_nI sr (by omega) (by decide)), nI_clamp (by omega)]
  unfold fX8_readReport_86 fX8_readReport_87
  rcases p_cases (h.2.1 (3 + r) (2 * k)) 6 (by decide) with q | ⟨p, hp, e1⟩
  · by_cases c : h.2.1 (3 + r) (2 * k) < 0
    · rw [if_pos c, if_pos rfl, e110]
    · rw [if_neg c, if_pos (show (6 : Int32) ≤ h.2.1 (3 + r) (2 * k) from q.resolve_left c), if_pos rfl, e110]
  · have q := bad.resolve_left (fun z => by
      rw [e1] at z
      have := p_out_toInt (by decide) z
      rw [nI_toInt (by omega)] at this
      omega)
    rw [e1, if_neg (nI_pos (by omega)), if_neg (show ¬ (6 : Int32) ≤ nI p from nI_ge hp (by decide)), if_neg (by decide), ck_t (sh_0 H), rf_0_9 H, br_s, n_p1, ck_t (inb_nI sr (by omega) (by decide)), ck_t (sh_28 H), nI_clamp (by omega), x_fset_out V q, b2_s, if_pos (by decide), e110]
/-- the pairs are read -/
theorem x_pairs (V : XV h T E) {r M : Nat} (hr : r < 6) (hM : M ≤ 20) {pp ss : Nat → Nat} (hb : ∀ k, k < M → pp k < 6 ∧ ss k < 2 ^ T.1) (hc : ∀ k, k < M → h.2.1 (3 + r) (2 * k) = nI (pp k) ∧ h.2.1 (3 + r) (2 * k + 1) = nI (ss k)) : ∃ h', fX6_readPairs 21 (3 + r) (nI (2 * M)) h = some ((), h') ∧ sc h h' ∧ RP h' pp ss M := by
  have H := V.H
  have b := V.b
  have p1 := p2_lt b.1
  unfold fX6_readPairs fX6_readPairs_0
  have H1 : gz_La (uF h 22 (fun k => if k < 6 then (-1 : Int32) else h.2.1 22 k)) := H.of rfl rfl
  rw [ck_t (sh_21 H), rf_21_0 H, br_s, p_fill (n := 6) (H.sh rfl) (by decide), b2_s, ck_t (sh_21 H1), lt_d]
  have hfu : M < 0 + gz_fu := by show M < 0 + 100000; omega
  generalize gz_fu = fu at hfu ⊢
  refine lpr (fun m k (q : gz_H) => fX6_readPairs_15 m 21 (3 + r) (nI (2 * M)) (nI (2 * k)) q) (fun k q => sc h q ∧ RP q pp ss k) M (fun x => ∃ h', x = some ((), h') ∧ sc h h' ∧ RP h' pp ss M) ?_ ?_ fu 0 _ (by omega) hfu ⟨(sc.uF (fun k => by unfold scr; omega)).tr (sc.uI (by unfold scr; omega)), false, fun _ => none, uI_at, fun p hp => by rw [uI_ne (by omega), uF_I, if_pos rfl, if_pos hp]; rfl, fun p v e => absurd e (by simp), fun tl => ⟨fun _ => rfl, fun _ => ⟨rfl, fun p _ v e => absurd e (by simp)⟩⟩⟩
  · intro m q ⟨q1, q2⟩
    refine ⟨q, ?_, q1, q2⟩
    rw [fX6_readPairs_15, n_p1, if_pos (nI_le (by omega) (by omega))]
  · intro m k q hk ⟨q1, c, S, r1, r2, r3, r4⟩
    have Hq := q1.la H
    have sr := sh_r Hq hr
    obtain ⟨bp, bs⟩ := hb k hk
    have d1 : q.2.1 (3 + r) (2 * k) = nI (pp k) := by rw [q1.2.2 _ _ (by unfold scr; omega)]; exact (hc k hk).1
    have d2 : q.2.1 (3 + r) (2 * k + 1) = nI (ss k) := by rw [q1.2.2 _ _ (by unfold scr; omega)]; exact (hc k hk).2
    have sp := r2 (pp k) bp
    -- the write
    have K : ∀ (kk : Nat → Nat → Int32 → Int32 → gz_H → Option (Unit × gz_H)) (u : gz_H), gz_La u → u.2.1 (3 + r) (2 * k + 1) = nI (ss k) → fX6_readPairs_58 kk 21 (3 + r) (nI (2 * M)) (nI (2 * k)) (nI (pp k)) u = kk 21 (3 + r) (nI (2 * M)) (nI (2 * (k + 1))) (uI u 22 (pp k) (nI (ss k))) := by
      intro kk u Hu du
      unfold fX6_readPairs_58
      rw [ck_t (sh_21 Hu), rf_21_0 Hu, br_s, n_p1, ck_t (inb_nI (sh_r Hu hr) (by omega) (by decide)), ck_t (in_22 Hu bp), nI_clamp (by omega), nI_clamp (by omega), lt_d, du, n_p2]
    have start : fX6_readPairs_15 (m + 1) 21 (3 + r) (nI (2 * M)) (nI (2 * k)) q = if enS (S (pp k)) = (-1 : Int32) then fX6_readPairs_15 m 21 (3 + r) (nI (2 * M)) (nI (2 * (k + 1))) (uI q 22 (pp k) (nI (ss k))) else if enS (S (pp k)) = nI (ss k) then fX6_readPairs_15 m 21 (3 + r) (nI (2 * M)) (nI (2 * (k + 1))) (uI q 22 (pp k) (nI (ss k))) else fX6_readPairs_15 m 21 (3 + r) (nI (2 * M)) (nI (2 * (k + 1))) (uI (uI q 21 1 1) 22 (pp k) (nI (ss k))) := by
      rw [fX6_readPairs_15, n_p1, if_neg (nI_ge (by omega) (by omega)), ck_t (inb_nI sr (by omega) (by decide)), ck_t (sh_21 Hq), rf_21_0 Hq, br_s, nI_clamp (by omega), d1, ck_t (in_22 Hq bp), nI_clamp (by omega), sp, ck_t (inb_nI sr (by omega) (by decide)), nI_clamp (by omega), d2, lt_d, K _ q Hq d2, K _ (uI q 21 1 1) (Hq.of rfl rfl) (by rw [uI_ne (by omega)]; exact d2)]
    -- what is known then
    have fin : ∀ (u : gz_H) (c' : Bool), sc h u → u.2.1 21 1 = nI (if c' = true then 1 else 0) → (∀ p, u.2.1 22 p = q.2.1 22 p) → (c' = false ↔ (c = false ∧ ∀ v, S (pp k) = some v → v = ss k)) → sc h (uI u 22 (pp k) (nI (ss k))) ∧ RP (uI u 22 (pp k) (nI (ss k))) pp ss (k + 1) := by
      intro u c' s1 u1 u2 hc'
      refine ⟨s1.tr (sc.uI (by unfold scr; omega)), c', fun p => if p = pp k then some (ss k) else S p, by rw [uI_ne (by omega)]; exact u1, fun p hp => ?_, fun p v e => ?_, fun tl => ?_⟩
      · show _ = enS (if p = pp k then some (ss k) else S p)
        by_cases z : p = pp k
        · rw [z, uI_at, if_pos rfl]; rfl
        · rw [uI_ne (by omega), u2, if_neg z]; exact r2 p hp
      · have e : (if p = pp k then some (ss k) else S p) = some v := e
        by_cases z : p = pp k
        · rw [if_pos z] at e
          have := Option.some.inj e
          omega
        · rw [if_neg z] at e
          exact r3 p v e
      · have e : fit pp ss tl (k + 1) = (fit pp ss tl k && decide (tl (pp k) = ss k)) := rfl
        rw [e, Bool.and_eq_true, ← r4 tl, decide_eq_true_eq, hc']
        constructor
        · rintro ⟨⟨z1, z2⟩, z3⟩
          have t := z3 (pp k) bp (ss k) (by show (if pp k = pp k then some (ss k) else S (pp k)) = _; rw [if_pos rfl])
          refine ⟨⟨z1, fun p hp v e => ?_⟩, t.symm⟩
          by_cases y : p = pp k
          · rw [y] at e ⊢
            rw [z2 v e]; exact t
          · exact z3 p hp v (by show (if p = pp k then some (ss k) else S p) = _; rw [if_neg y]; exact e)
        · rintro ⟨⟨z1, z2⟩, z3⟩
          refine ⟨⟨z1, fun v e => ?_⟩, fun p hp v e => ?_⟩
          · rw [z2 (pp k) bp v e, z3]
          · have e : (if p = pp k then some (ss k) else S p) = some v := e
            by_cases y : p = pp k
            · rw [if_pos y] at e
              rw [y, z3]; exact (Option.some.inj e).symm
            · rw [if_neg y] at e
              exact z2 p hp v e
    rw [start]
    cases hS : S (pp k) with
    | none =>
      obtain ⟨f1, f2⟩ := fin q c q1 r1 (fun _ => rfl) ⟨fun z => ⟨z, fun v e => by rw [hS] at e; exact absurd e (by simp)⟩, fun z => z.1⟩
      exact ⟨_, ⟨f1, f2⟩, by rw [if_pos enS_n]⟩
    | some v =>
      have hv := r3 _ _ hS
      have ev : enS (some v) = nI v := rfl
      rw [ev, if_neg (n_ne v (by omega))]
      by_cases z : v = ss k
      · obtain ⟨f1, f2⟩ := fin q c q1 r1 (fun _ => rfl) ⟨fun y => ⟨y, fun v' e => by rw [hS] at e; rw [← Option.some.inj e]; exact z⟩, fun y => y.1⟩
        exact ⟨_, ⟨f1, f2⟩, by rw [if_pos (congrArg nI z)]⟩
      · obtain ⟨f1, f2⟩ := fin (uI q 21 1 1) true (q1.tr (sc.uI (by unfold scr; omega))) uI_at (fun p => uI_ne (by omega)) ⟨fun y => absurd y (by decide), fun y => absurd (y.2 v hS) z⟩
        exact ⟨_, ⟨f1, f2⟩, by rw [if_neg (fun y => z ((nI_eq (by omega) (by omega)).mp y))]⟩
theorem x_fits (H : gz_La h) {g : Nat} {kd : Int32} {pp ss tl : Nat → Nat} {M : Nat} (R : RP h pp ss M) (hg : gz_sh h g 2 6 = true) (hT : ∀ p, p < 6 → fX2_toldAs g kd (nI p) 29 h = some (nI (tl p), h)) (ht : ∀ p, p < 6 → tl p < 256) : fX6_fits 21 g kd 29 h = some (nI (if fit pp ss tl M = true then 1 else 0), h) := by
  obtain ⟨c, S, r1, r2, r3, r4⟩ := R
  have r4 := r4 tl
  unfold fX6_fits fX6_fits_0
  rw [ck_t (sh_21 H), r1]
  cases c with
  | true =>
    rw [if_neg (by decide), if_neg (fun z => absurd (r4.mpr z).1 (by decide))]
    rfl
  | false =>
    rw [if_pos (by decide)]
    have A : ∀ n p, p ≤ 6 → 6 < p + n → (∀ q, q < p → ∀ v, S q = some v → v = tl q) → fX6_fits_12 n 21 g kd 29 (nI p) h = some (nI (if fit pp ss tl M = true then 1 else 0), h) := by
      intro n
      induction n with
      | zero => intro p h1 h2; omega
      | succ n ih =>
        intro p h1 h2 hq
        rw [fX6_fits_12]
        by_cases e : p = 6
        · subst e
          rw [if_pos (by decide), if_pos (r4.mp ⟨rfl, hq⟩)]
          rfl
        · have hp : p < 6 := by omega
          have hl := ht p hp
          rw [if_neg (show ¬ (6 : Int32) ≤ nI p from nI_ge hp (by decide)), ck_t (sh_21 H), rf_21_0 H, br_s, ck_t (in_22 H hp), nI_clamp (by omega), r2 p hp]
          unfold fX6_fits_50
          rw [nI_1]
          cases hS : S p with
          | none =>
            rw [if_pos enS_n]
            exact ih (p + 1) (by omega) (by omega) (fun q hq1 v e => by
              by_cases z : q = p
              · rw [z, hS] at e; exact absurd e (by simp)
              · exact hq q (by omega) v e)
          | some v =>
            have hv := r3 _ _ hS
            have ev : enS (some v) = nI v := rfl
            rw [ev, if_neg (n_ne v (by omega)), ck_t hg, hT p hp, b2_s]
            by_cases z : v = tl p
            · rw [if_pos (congrArg nI z)]
              exact ih (p + 1) (by omega) (by omega) (fun q hq1 v' e => by
                by_cases y : q = p
                · rw [y, hS] at e; rw [y, ← Option.some.inj e]; exact z
                · exact hq q (by omega) v' e)
            · rw [if_neg (fun y => z ((nI_eq (by omega) (by omega)).mp y)), if_neg (fun y => z ((r4.mpr y).2 p hp v hS))]
              rfl
    exact A gz_fu 0 (by omega) (by show 6 < 0 + 100000; omega) (fun q hq => absurd hq (by omega))
theorem fit_mono {pp ss tl : Nat → Nat} {k : Nat} (e : fit pp ss tl k = false) : ∀ j, fit pp ss tl (k + j) = false := by
  intro j
  induction j with
  | zero => exact e
  | succ j ih =>
    show (fit pp ss tl (k + j) && _) = false
    rw [ih, Bool.false_and]
theorem m_isSo (H : gz_La h) {r M : Nat} (hr : r < 6) (hM : M ≤ 20) {pp ss tl : Nat → Nat} {kd mo : Int32} (hz : h.2.1 91 r = nI (2 * M)) (hc : ∀ k, k < M → h.2.1 92 (40 * r + 2 * k) = nI (pp k) ∧ h.2.1 92 (40 * r + 2 * k + 1) = nI (ss k)) (hb : ∀ k, k < M → pp k < 6 ∧ ss k < 256) (hT : ∀ p, p < 6 → fX9_tellsTried 85 kd mo (nI p) h = some (nI (tl p), h)) (ht : ∀ p, p < 6 → tl p < 256) : fX9_isSo 85 kd mo (nI r) h = some (nI (if fit pp ss tl M = true then 1 else 0), h) := by
  unfold fX9_isSo fX9_isSo_0
  have A : ∀ n k, k ≤ M → M < k + n → fX9_isSo_6 n 85 kd mo (nI r) (nI (if fit pp ss tl k = true then 1 else 0)) (nI (2 * k)) h = some (nI (if fit pp ss tl M = true then 1 else 0), h) := by
    intro n
    induction n with
    | zero => intro k h1 h2; omega
    | succ n ih =>
      intro k h1 h2
      rw [fX9_isSo_6, ck_t (sh_85 H), rf_85_7 H, br_s, ck_t (in_91 H hr), nI_clamp (by omega), hz]
      have bo : ∀ b : Bool, gz_bo (nI (if b = true then 1 else 0)) = true := by intro b; cases b <;> rfl
      by_cases e : k = M
      · subst e
        rw [if_pos (nI_le (Nat.le_refl _) (by omega)), ck_t (bo _)]
      · have hk : k < M := by omega
        obtain ⟨bp, bs⟩ := hb k hk
        have tp := ht _ bp
        rw [if_neg (nI_ge (by omega) (by omega))]
        cases hf : fit pp ss tl k with
        | false =>
          have := fit_mono hf (M - k)
          rw [show k + (M - k) = M by omega] at this
          rw [this, if_pos (show nI (if false = true then 1 else 0) = 0 from rfl), ck_t (bo false)]
        | true =>
          have ef : fit pp ss tl (k + 1) = decide (tl (pp k) = ss k) := by show (fit pp ss tl k && _) = _; rw [hf, Bool.true_and]
          have ih' := ih (k + 1) (by omega) (by omega)
          rw [ef] at ih'
          rw [if_pos rfl, if_neg (by decide), rf_85_8 H, br_s, show (40 : Int32) = nI 40 from rfl, n_mul, ck_t (in_92 H (by omega)), nI_clamp (by omega), (hc k hk).1, hT _ bp, b2_s, ck_t (sh_85 H), rf_85_8 H, br_s, nI_1, ck_t (in_92 H (by omega)), nI_clamp (by omega), (hc k hk).2]
          unfold fX9_isSo_62
          rw [n_p2]
          by_cases z : tl (pp k) = ss k
          · rw [if_pos (congrArg nI z)]
            rw [decide_eq_true z] at ih'
            exact ih'
          · rw [if_neg (fun y => z ((nI_eq (by omega) (by omega)).mp y))]
            rw [decide_eq_false z] at ih'
            exact ih'
  exact A gz_fu 0 (by omega) (by show M < 0 + 100000; omega)
end
end
section
/-! PURE: a row is a report, or isn't; kinds agrees -/
section
variable {h : gz_H} {T : gz_T} {E : gz_D}
/-- the reference's row, as the pairs -/
def PRm (q : gz_H) (r M : Nat) (pp ss : Nat → Nat) : Prop := q.2.1 91 r = nI (2 * M) ∧ ∀ k, k < M → q.2.1 92 (40 * r + 2 * k) = nI (pp k) ∧ q.2.1 92 (40 * r + 2 * k + 1) = nI (ss k)
theorem m_np_ok (V : MV h T E) {r M : Nat} (hr : r < 6) (hM : M ≤ 20) {pp ss : Nat → Nat} (hb : ∀ k, k < M → pp k < 6 ∧ ss k < 2 ^ T.1) (R : PRm h r M pp ss) : fX9_noPairs 85 (nI r) h = some (0, h) := by
  have H := V.H
  unfold fX9_noPairs fX9_noPairs_0
  rw [ck_t (sh_85 H), rf_85_7 H, br_s, ck_t (in_91 H hr), nI_clamp (by omega), R.1, if_pos (nI_pos' (by omega)), show (2 : Int32) = nI 2 from rfl, pk_rem (by omega) (by omega) (by omega), if_pos (show nI (2 * M % 2) = 0 by rw [Nat.mul_mod_right]; rfl)]
  have hfu : M < 0 + gz_fu := by show M < 0 + 100000; omega
  generalize gz_fu = fu at hfu ⊢
  refine lp (fun m k (_ : Unit) => fX9_noPairs_36 m 85 (nI r) (1 : Int32) (nI (2 * k)) h) (fun _ => ()) M _ ?_ ?_ fu 0 (by omega) hfu
  · intro m
    rw [fX9_noPairs_36, ck_t (sh_85 H), rf_85_7 H, br_s, ck_t (in_91 H hr), nI_clamp (by omega), R.1, if_pos (nI_le (Nat.le_refl _) (by omega)), if_neg (by decide)]
  · intro m k hk
    obtain ⟨b1, b2⟩ := hb k hk
    obtain ⟨c1, c2⟩ := R.2 k hk
    rw [fX9_noPairs_36, ck_t (sh_85 H), rf_85_7 H, br_s, ck_t (in_91 H hr), nI_clamp (by omega), R.1, if_neg (nI_ge (by omega) (by omega)), if_neg (by decide), rf_85_8 H, br_s, show (40 : Int32) = nI 40 from rfl, n_mul, ck_t (in_92 H (by omega)), nI_clamp (by omega), c1, m_place_in b1, b2_s, if_neg (by decide), ck_t (sh_85 H), rf_85_8 H, br_s, nI_1, ck_t (in_92 H (by omega)), nI_clamp (by omega), c2, m_set_in V b2, b2_s, if_neg (by decide)]
    unfold fX9_noPairs_92
    rw [n_p2]
theorem m_np_bad (V : MV h T E) {r M k0 : Nat} (hr : r < 6) (hM : M ≤ 20) (h0 : k0 < M) {c : Nat → Int32} (hz : h.2.1 91 r = nI (2 * M)) (hc : ∀ k, k < 40 → h.2.1 92 (40 * r + k) = c k) (ok : ∀ k, k < k0 → ¬ (p_out (c (2 * k)) 6 ∨ p_out (c (2 * k + 1)) (2 ^ T.1))) (bad : p_out (c (2 * k0)) 6 ∨ p_out (c (2 * k0 + 1)) (2 ^ T.1)) : fX9_noPairs 85 (nI r) h = some (-3, gz_mf h 3) := by
  have H := V.H
  have b := V.b
  have p1 := p2_lt b.1
  unfold fX9_noPairs fX9_noPairs_0
  rw [ck_t (sh_85 H), rf_85_7 H, br_s, ck_t (in_91 H hr), nI_clamp (by omega), hz, if_pos (nI_pos' (by omega)), show (2 : Int32) = nI 2 from rfl, pk_rem (by omega) (by omega) (by omega), if_pos (show nI (2 * M % 2) = 0 by rw [Nat.mul_mod_right]; rfl)]
  have hfu : M < 0 + gz_fu := by show M < 0 + 100000; omega
  generalize gz_fu = fu at hfu ⊢
  have e0 : (1 : Int32) = nI (if 0 ≤ k0 then 1 else 0) := by rw [if_pos (Nat.zero_le _)]; rfl
  rw [e0]
  refine lp (fun m k (y : Int32) => fX9_noPairs_36 m 85 (nI r) y (nI (2 * k)) h) (fun k => nI (if k ≤ k0 then 1 else 0)) M _ ?_ ?_ fu 0 (by omega) hfu
  · intro m
    show fX9_noPairs_36 (m + 1) 85 (nI r) (nI (if M ≤ k0 then 1 else 0)) (nI (2 * M)) h = _
    rw [fX9_noPairs_36, ck_t (sh_85 H), rf_85_7 H, br_s, ck_t (in_91 H hr), nI_clamp (by omega), hz, if_pos (nI_le (Nat.le_refl _) (by omega)), if_neg (show ¬ M ≤ k0 by omega), if_pos (by decide), show (3 : Int32) = nI 3 from rfl, p_find H (by decide), b2_s]
    rfl
  · intro m k hk
    show fX9_noPairs_36 (m + 1) 85 (nI r) (nI (if k ≤ k0 then 1 else 0)) (nI (2 * k)) h = fX9_noPairs_36 m 85 (nI r) (nI (if k + 1 ≤ k0 then 1 else 0)) (nI (2 * (k + 1))) h
    have c1 := hc (2 * k) (by omega)
    have c2 : h.2.1 92 (40 * r + 2 * k + 1) = c (2 * k + 1) := hc (2 * k + 1) (by omega)
    rw [fX9_noPairs_36, ck_t (sh_85 H), rf_85_7 H, br_s, ck_t (in_91 H hr), nI_clamp (by omega), hz, if_neg (nI_ge (by omega) (by omega))]
    by_cases q : k ≤ k0
    · rw [if_pos q, if_neg (by decide), rf_85_8 H, br_s, show (40 : Int32) = nI 40 from rfl, n_mul, ck_t (in_92 H (by omega)), nI_clamp (by omega), c1]
      have no : ∀ y : Int32, (y = 0) → fX9_noPairs_91 (fun z0 z1 z2 z3 zh => fX9_noPairs_36 m z0 z1 z2 z3 zh) 85 (nI r) (nI (2 * k)) h = fX9_noPairs_36 m 85 (nI r) y (nI (2 * (k + 1))) h := by
        intro y ey
        unfold fX9_noPairs_91 fX9_noPairs_92
        rw [n_p2, ey]
      rcases p_cases (c (2 * k)) 6 (by decide) with z | ⟨p, hp, e1⟩
      · have : k = k0 := by
          rcases Nat.lt_or_ge k k0 with y | y
          · exact absurd (Or.inl z) (ok k y)
          · omega
        rw [m_place_out z, b2_s, if_pos (by decide), if_neg (show ¬ k + 1 ≤ k0 by omega)]
        exact no _ rfl
      · rw [e1, m_place_in hp, b2_s, if_neg (by decide), ck_t (sh_85 H), rf_85_8 H, br_s, nI_1, ck_t (in_92 H (by omega)), nI_clamp (by omega), c2]
        rcases p_cases (c (2 * k + 1)) (2 ^ T.1) (by omega) with z | ⟨s, hs, e2⟩
        · have : k = k0 := by
            rcases Nat.lt_or_ge k k0 with y | y
            · exact absurd (Or.inr z) (ok k y)
            · omega
          rw [m_set_out V z, b2_s, if_pos (by decide), if_neg (show ¬ k + 1 ≤ k0 by omega)]
          exact no _ rfl
        · have : ¬ k = k0 := by
            intro y
            rw [y] at e1 e2
            rcases bad with z | z
            · rw [e1] at z
              have := p_out_toInt (by decide) z
              rw [nI_toInt (by omega)] at this
              omega
            · rw [e2] at z
              have := p_out_toInt (by omega) z
              rw [nI_toInt (by omega)] at this
              omega
          rw [e2, m_set_in V hs, b2_s, if_neg (by decide), if_pos (show k + 1 ≤ k0 by omega)]
          unfold fX9_noPairs_92
          rw [n_p2]
          rfl
    · rw [if_neg q, if_pos (by decide), if_neg (show ¬ k + 1 ≤ k0 by omega)]
      unfold fX9_noPairs_91 fX9_noPairs_92
      rw [n_p2]
      rfl
theorem x_rr0 (I : gz_In h) {r : Nat} (hr : r < 6) {n : Nat} (hn : n ≤ 40) (e : h.2.1 9 r = nI n) : fX8_readReport 0 (nI r) h = if nI (n % 2) = 0 then fX8_readReport_58 gz_fu 0 (nI n) (3 + r) (0 : Int32) h else some (-3, gz_xf h 5) := by
  have H := I.1
  have S := H.rows I.2.1
  unfold fX8_readReport fX8_readReport_0
  rw [ck_t (sh_0 H), rf_0_0 H, br_s, ck_t (sh_1 H), p_has1 S hr (by rw [e]; exact n_ne n (by omega)), b2_s, if_neg (by decide), ck_t (sh_0 H), rf_0_0 H, br_s, ck_t (sh_1 H), rf_1_2 H, br_s, ck_t (in_9 H hr), rf_1_1 H, br_s, ck_t (in_2 H hr), nI_clamp (by omega), rf_2 H hr, br_s, e, show (2 : Int32) = nI 2 from rfl, pk_rem (by omega) (by omega) (by omega), rf_0_3 H, br_s, ck_t (sh_18 H), show (5 : Int32) = nI 5 from rfl, p_answer H (by decide), b2_s]
theorem rep (I : gz_Iv h) (V : XV h T E) (W : MV h T E) {r : Nat} (hr : r < 6) : (∃ f, f < 6 ∧ fX8_readReport 0 (nI r) h = some (-3, gz_xf h f) ∧ fX9_noPairs 85 (nI r) (gz_xf h f) = some (-3, gz_mf (gz_xf h f) f)) ∨ (∃ h' M pp ss, M ≤ 20 ∧ (∀ k, k < M → pp k < 6 ∧ ss k < 2 ^ T.1) ∧ fX8_readReport 0 (nI r) h = some (0, h') ∧ sc h h' ∧ RP h' pp ss M ∧ PRm h r M pp ss) := by
  have H := V.H
  have b := V.b
  have p1 := p2_lt b.1
  have S := H.rows I.1.2.1
  obtain ⟨t1, t2, t3⟩ := I.1.2.2.1 r hr
  rcases t2 with e | ⟨n, hn, e⟩
  · refine Or.inl ⟨1, by decide, ?_, ?_⟩
    · unfold fX8_readReport fX8_readReport_0
      rw [ck_t (sh_0 H), rf_0_0 H, br_s, ck_t (sh_1 H), p_has0 S hr e, b2_s, if_pos (by decide), ck_t (sh_0 H), rf_0_3 H, br_s, ck_t (sh_18 H), show (1 : Int32) = nI 1 from rfl, p_answer H (by decide), b2_s]
    · have H1 := gz_xf_La (f := 1) H
      have e1 : (gz_xf h 1).2.1 91 r = -1 := by rw [gz_xf_I 91 r (by decide) (by decide), ← t1]; exact e
      unfold fX9_noPairs fX9_noPairs_0
      rw [ck_t (sh_85 H1), rf_85_7 H1, br_s, ck_t (in_91 H1 hr), nI_clamp (by omega), e1, if_neg (by decide), show (1 : Int32) = nI 1 from rfl, p_find H1 (by decide), b2_s]
  · have X0 := x_rr0 I.1 hr hn e
    have nz : nI (n % 2) = 0 ↔ n % 2 = 0 := nI_z (by omega)
    by_cases o : n % 2 = 0
    · rw [if_pos (nz.mpr o)] at X0
      obtain ⟨M, rfl⟩ : ∃ M, n = 2 * M := ⟨n / 2, by omega⟩
      rcases fst_bad (fun k => p_out (h.2.1 (3 + r) (2 * k)) 6 ∨ p_out (h.2.1 (3 + r) (2 * k + 1)) (2 ^ T.1)) M with ok | ⟨k0, h0, bad, ok⟩
      · refine Or.inr ?_
        have pr : ∀ k, k < M → (h.2.1 (3 + r) (2 * k)).toNatClampNeg < 6 ∧ (h.2.1 (3 + r) (2 * k + 1)).toNatClampNeg < 2 ^ T.1 ∧ h.2.1 (3 + r) (2 * k) = nI (h.2.1 (3 + r) (2 * k)).toNatClampNeg ∧ h.2.1 (3 + r) (2 * k + 1) = nI (h.2.1 (3 + r) (2 * k + 1)).toNatClampNeg := by
          intro k hk
          have q := ok k hk
          rcases p_cases (h.2.1 (3 + r) (2 * k)) 6 (by decide) with z | ⟨p, hp, e1⟩
          · exact absurd (Or.inl z) q
          · rcases p_cases (h.2.1 (3 + r) (2 * k + 1)) (2 ^ T.1) (by omega) with z | ⟨s, hs, e2⟩
            · exact absurd (Or.inr z) q
            · rw [e1, e2, nI_clamp (by omega), nI_clamp (by omega)]
              exact ⟨hp, hs, rfl, rfl⟩
        obtain ⟨h', e', s', R⟩ := x_pairs V hr (M := M) (by omega) (pp := fun k => (h.2.1 (3 + r) (2 * k)).toNatClampNeg) (ss := fun k => (h.2.1 (3 + r) (2 * k + 1)).toNatClampNeg) (fun k hk => ⟨(pr k hk).1, (pr k hk).2.1⟩) (fun k hk => ⟨(pr k hk).2.2.1, (pr k hk).2.2.2⟩)
        refine ⟨h', M, _, _, by omega, fun k hk => ⟨(pr k hk).1, (pr k hk).2.1⟩, ?_, s', R, by rw [← t1]; exact e, fun k hk => ⟨by rw [← t3 (2 * k) (by omega)]; exact (pr k hk).2.2.1, by rw [Nat.add_assoc, ← t3 (2 * k + 1) (by omega)]; exact (pr k hk).2.2.2⟩⟩
        rw [X0]
        have hfu : M < 0 + gz_fu := by show M < 0 + 100000; omega
        generalize gz_fu = fu at hfu
        refine lp (fun m k (_ : Unit) => fX8_readReport_58 m 0 (nI (2 * M)) (3 + r) (nI (2 * k)) h) (fun _ => ()) M _ ?_ ?_ fu 0 (by omega) hfu
        · intro m
          rw [fX8_readReport_58, n_p1, if_pos (nI_le (by omega) (by omega)), ck_t (sh_0 H), rf_0_5 H, br_s, ck_t (sh_21 H), e', b2_s]
        · intro m k hk
          exact x_rr_ok V hr hk (by omega) (pr k hk).1 (pr k hk).2.1 (pr k hk).2.2.1 (pr k hk).2.2.2
      · refine Or.inl ⟨3, by decide, ?_, ?_⟩
        · rw [X0]
          have hfu : k0 < 0 + gz_fu := by show k0 < 0 + 100000; omega
          generalize gz_fu = fu at hfu
          refine lp (fun m k (_ : Unit) => fX8_readReport_58 m 0 (nI (2 * M)) (3 + r) (nI (2 * k)) h) (fun _ => ()) k0 _ ?_ ?_ fu 0 (by omega) hfu
          · intro m
            exact x_rr_bad V hr h0 (by omega) bad
          · intro m k hk
            have q := ok k hk
            rcases p_cases (h.2.1 (3 + r) (2 * k)) 6 (by decide) with z | ⟨p, hp, e1⟩
            · exact absurd (Or.inl z) q
            · rcases p_cases (h.2.1 (3 + r) (2 * k + 1)) (2 ^ T.1) (by omega) with z | ⟨s, hs, e2⟩
              · exact absurd (Or.inr z) q
              · exact x_rr_ok V hr (by omega) (by omega) hp hs e1 e2
        · exact m_np_bad (W.kp kp.xf) hr (M := M) (by omega) h0 (by rw [gz_xf_I 91 r (by decide) (by decide), ← t1]; exact e) (fun k hk => by rw [gz_xf_I 92 _ (by decide) (by decide), ← t3 k hk]) ok bad
    · rw [if_neg (fun z => o (nz.mp z))] at X0
      refine Or.inl ⟨5, by decide, X0, ?_⟩
      have H1 := gz_xf_La (f := 5) H
      have e1 : (gz_xf h 5).2.1 91 r = nI n := by rw [gz_xf_I 91 r (by decide) (by decide), ← t1]; exact e
      unfold fX9_noPairs fX9_noPairs_0
      rw [ck_t (sh_85 H1), rf_85_7 H1, br_s, ck_t (in_91 H1 hr), nI_clamp (by omega), e1, if_pos (nI_pos' (by omega)), show (2 : Int32) = nI 2 from rfl, pk_rem (by omega) (by omega) (by omega), if_neg (fun z => o (nz.mp z)), show (5 : Int32) = nI 5 from rfl, p_find H1 (by decide), b2_s]
def kdS (T : gz_T) (l : List Nat) (mo : Nat) (pp ss : Nat → Nat) (M : Nat) (k : Nat) : Nat := fo (fun kd => if fit pp ss (ta T kd mo l) M = true then 2 ^ kd else 0) k
theorem ta_lt8 {l : List Nat} {kd mo p : Nat} (hF : T.1 ≤ 8) (hb : ∀ f ∈ l, f < T.1) : ta T kd mo l p < 256 := ta_lt (b := 8) (fun f hf => Nat.lt_of_lt_of_le (hb f hf) hF)
theorem op_kinds (I : gz_Iv h) (x1 x2 : Int32) : gz_ag (fX8_kinds 0 x1 x2) (fX9_kinds 85 x1 x2) h gz_Iv := by
  obtain ⟨T, D, ds, ks, sa, F⟩ := I.2
  have V := F.xv I.1.1
  have W := F.mv I.1.1
  have H := V.H
  have b := V.b
  have p1 := p2_lt b.1
  have S := H.rows I.1.2.1
  rcases p_cases x1 T.2.1 (by omega) with hx | ⟨i, hi, rfl⟩
  · refine ag_no I (y := -1) ?_ ?_
    · unfold fX8_kinds fX8_kinds_0
      rw [ck_t (sh_0 H), rf_0_9 H, br_s, ck_t (sh_28 H), x_goose_out V hx, b2_s, if_pos (by decide)]
    · unfold fX9_kinds fX9_kinds_0
      rw [ck_t (sh_85 H), m_goose_out W hx, b2_s, if_pos (by decide)]
  rcases p_cases x2 6 (by omega) with hx | ⟨r, hr, rfl⟩
  · refine ag_no I (y := -1) ?_ ?_
    · unfold fX8_kinds fX8_kinds_0
      rw [ck_t (sh_0 H), rf_0_9 H, br_s, ck_t (sh_28 H), x_goose_in V hi, b2_s, if_neg (by decide), ck_t (sh_0 H), rf_0_0 H, br_s, ck_t (sh_1 H), p_knows_out S hx, b2_s, if_pos (by decide)]
    · unfold fX9_kinds fX9_kinds_0
      rw [ck_t (sh_85 H), m_goose_in W hi, b2_s, if_neg (by decide), p_isRow_out hx, b2_s, if_pos (by decide)]
  have X0 : fX8_kinds 0 (nI i) (nI r) h = gz_b2 (fX8_readReport 0 (nI r) h) (fun y_14 h_13 => if y_14 = 0 then fX8_kinds_42 gz_fu 0 (nI i) (0 : Int32) (0 : Int32) h_13 else some (y_14, h_13)) := by
    unfold fX8_kinds fX8_kinds_0
    rw [ck_t (sh_0 H), rf_0_9 H, br_s, ck_t (sh_28 H), x_goose_in V hi, b2_s, if_neg (by decide), ck_t (sh_0 H), rf_0_0 H, br_s, ck_t (sh_1 H), p_knows_in S hr, b2_s, if_neg (by decide), ck_t (sh_0 H)]
  have M0 : ∀ q, MV q T (rn T D ds) → fX9_kinds 85 (nI i) (nI r) q = gz_b2 (fX9_noPairs 85 (nI r) q) (fun y_9 h_8 => if y_9 = 0 then gz_ck (gz_sh h_8 85 9 29) (gz_b2 (fX9_layHeld 85 (nI i) h_8) fun _ h_12 => fX9_kinds_40 gz_fu 85 (nI i) (nI r) (0 : Int32) (0 : Int32) h_12) else some (y_9, h_8)) := by
    intro q Wq
    have Hq := Wq.H
    unfold fX9_kinds fX9_kinds_0
    rw [ck_t (sh_85 Hq), m_goose_in Wq hi, b2_s, if_neg (by decide), p_isRow_in hr, b2_s, if_neg (by decide), ck_t (sh_85 Hq)]
  rcases rep I V W hr with ⟨f, hf, e1, e2⟩ | ⟨h1, M, pp, ss, hM, hb, e1, s1, R, P⟩
  · refine ag_iv I (st_findE I.1 (f := f) hf ?_ ?_)
    · rw [X0, e1, b2_s, if_neg (by decide)]
    · rw [M0 _ (W.kp kp.xf), e2, b2_s, if_neg (by decide)]
  · have V1 := V.sc s1
    have W1 := W.sc s1
    have H1 := V1.H
    have P1 : PRm h1 r M pp ss := ⟨by rw [s1.2.2 91 r (by unfold scr; omega)]; exact P.1, fun k hk => by rw [s1.2.2 92 _ (by unfold scr; omega), s1.2.2 92 _ (by unfold scr; omega)]; exact P.2 k hk⟩
    obtain ⟨h2, e2, s2, TR2⟩ := m_layHeld W1 hi
    have W2 := W1.sc s2
    have H2 := W2.H
    have P2 : PRm h2 r M pp ss := ⟨by rw [s2.2.2 91 r (by unfold scr; omega)]; exact P1.1, fun k hk => by rw [s2.2.2 92 _ (by unfold scr; omega), s2.2.2 92 _ (by unfold scr; omega)]; exact P1.2 k hk⟩
    have bi := W.bi i hi
    have lt := (V.2.2.1 i hi)
    have wb := V.2.1.bi i hi
    refine q_same I (v := nI (kdS T (rn T D ds i).1 (T.2.2.2.2.1 i) pp ss M 6)) fun _ _ _ _ => ⟨h1, h2, ?_, s1, ?_, s2⟩
    · rw [X0, e1, b2_s, if_pos rfl]
      have hfu : 6 < 0 + gz_fu := by show 6 < 0 + 100000; omega
      generalize gz_fu = fu at hfu
      refine lp (fun m k (y : Int32) => fX8_kinds_42 m 0 (nI i) y (nI k) h1) (fun k => nI (kdS T (rn T D ds i).1 (T.2.2.2.2.1 i) pp ss M k)) 6 _ ?_ ?_ fu 0 (by omega) hfu
      · intro m
        rw [fX8_kinds_42, if_pos (by decide)]
      · intro m k hk
        have ef := x_fits (kd := nI k) H1 R (sgk_31 H1 (j := i) (by omega)) (tl := ta T k (T.2.2.2.2.1 i) (rn T D ds i).1) (fun p hp => x_toldAs V1 (V1.gv i hi) lt.2.2.1 (by omega) hp (V1.mo i hi) wb.2.2.1) (fun p hp => ta_lt8 b.1 lt.2.2.1)
        have es : kdS T (rn T D ds i).1 (T.2.2.2.2.1 i) pp ss M (k + 1) = kdS T (rn T D ds i).1 (T.2.2.2.2.1 i) pp ss M k ||| (if fit pp ss (ta T k (T.2.2.2.2.1 i) (rn T D ds i).1) M = true then 2 ^ k else 0) := rfl
        have e9 : (1 : Int32) <<< (nI k &&& 31) = nI (2 ^ k) := nI_shl (by omega)
        rw [fX8_kinds_42, if_neg (show ¬ (6 : Int32) ≤ nI k from nI_ge hk (by decide)), ck_t (sh_0 H1), rf_0_5 H1, br_s, rf_0_9 H1, br_s, ck_t (sh_28 H1), rf_28_1 H1, br_s, ck_t (in_30 H1 (by omega)), nI_clamp (by omega), rf_30 H1 (by omega), br_s, rf_28_0 H1, br_s, ck_t (sh_21 H1), ef, b2_s, es]
        unfold fX8_kinds_86
        rw [nI_1, e9, nI_or]
        by_cases c : fit pp ss (ta T k (T.2.2.2.2.1 i) (rn T D ds i).1) M = true
        · rw [if_pos c, if_neg (by decide), if_pos c]
        · rw [if_neg c, if_pos (by decide), if_neg c, Nat.or_zero]
    · rw [M0 _ W1, m_np_ok W1 hr hM hb P1, b2_s, if_pos rfl, ck_t (sh_85 H1), e2, b2_s]
      have hfu : 6 < 0 + gz_fu := by show 6 < 0 + 100000; omega
      generalize gz_fu = fu at hfu
      refine lp (fun m k (y : Int32) => fX9_kinds_40 m 85 (nI i) (nI r) y (nI k) h2) (fun k => nI (kdS T (rn T D ds i).1 (T.2.2.2.2.1 i) pp ss M k)) 6 _ ?_ ?_ fu 0 (by omega) hfu
      · intro m
        rw [fX9_kinds_40, if_pos (by decide)]
      · intro m k hk
        have ef := m_isSo (kd := nI k) (mo := nI (T.2.2.2.2.1 i)) H2 hr hM P2.1 P2.2 (fun k hk => ⟨(hb k hk).1, by have := (hb k hk).2; omega⟩) (tl := ta T k (T.2.2.2.2.1 i) (rn T D ds i).1) (fun p hp => m_tellsTried W2 TR2 (by have := lt.1; omega) lt.2.2.1 (by omega) hp wb.2.2.1 lt.1) (fun p hp => ta_lt8 b.1 lt.2.2.1)
        have es : kdS T (rn T D ds i).1 (T.2.2.2.2.1 i) pp ss M (k + 1) = kdS T (rn T D ds i).1 (T.2.2.2.2.1 i) pp ss M k ||| (if fit pp ss (ta T k (T.2.2.2.2.1 i) (rn T D ds i).1) M = true then 2 ^ k else 0) := rfl
        have e9 : (1 : Int32) <<< (nI k &&& 31) = nI (2 ^ k) := nI_shl (by omega)
        rw [fX9_kinds_40, if_neg (show ¬ (6 : Int32) ≤ nI k from nI_ge hk (by decide)), ck_t (sh_85 H2), rf_85_5 H2, br_s, ck_t (in_89 H2 (by omega)), nI_clamp (by omega), W2.mo i hi, ef, b2_s, es]
        unfold fX9_kinds_73
        rw [nI_1, e9, show (0 : Int32) = nI 0 from rfl, nI_or, nI_or]
        by_cases c : fit pp ss (ta T k (T.2.2.2.2.1 i) (rn T D ds i).1) M = true
        · rw [if_pos c, if_neg (by decide), if_pos c]
        · rw [if_neg c, if_pos (by decide), if_neg c]
end
end
