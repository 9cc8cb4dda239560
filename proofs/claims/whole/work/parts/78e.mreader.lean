/-! PURE: the reference's reader -/
def mfc (a k : Nat) : Prop := (a = 85 ∧ (k = 16 ∨ k = 17 ∨ k = 18 ∨ k = 20 ∨ k = 24)) ∨ (96 ≤ a ∧ a ≤ 99)
def MF (h q : gz_H) : Prop := q.1 = h.1 ∧ q.2.2 = h.2.2 ∧ ∀ a k, ¬ mfc a k → q.2.1 a k = h.2.1 a k
def MR (h q : gz_H) (t n : Nat) (c : Nat → Int32) (p : Nat) : Prop := MF h q ∧ gz_La q ∧ q.2.1 85 16 = nI (80 * t) ∧ q.2.1 85 17 = nI p ∧ q.2.1 85 18 = nI n ∧ ∀ k, k < n → q.2.1 94 (80 * t + k) = c k
def mL (q : gz_H) (L : List Nat) : Prop := q.2.1 85 20 = nI L.length ∧ ∀ k, k < L.length → q.2.1 96 k = nI (L.getD k 0)
def mG (q : gz_H) (G : List gz_Gs) : Prop := q.2.1 85 24 = nI G.length ∧ ∀ i, i < G.length → q.2.1 97 (3 * i) = nI (G.getD i g0).1 ∧ q.2.1 97 (3 * i + 1) = nI (G.getD i g0).2.1 ∧ q.2.1 97 (3 * i + 2) = nI (G.getD i g0).2.2.1 ∧ q.2.1 98 i = nI (G.getD i g0).2.2.2.length ∧ ∀ k, k < (G.getD i g0).2.2.2.length → q.2.1 99 (8 * i + k) = nI ((G.getD i g0).2.2.2.getD k 0)
section
variable {h q q' : gz_H} {t n p : Nat} {c : Nat → Int32}
theorem MR.pos (X : MR h q t n c p) (p' : Nat) : MR h (uI q 85 17 (nI p')) t n c p' := by
  obtain ⟨⟨x1, x2, x3⟩, x5, x6, x7, x8, x9⟩ := X
  exact ⟨⟨x1, x2, fun a k e => by rw [uI_ne (by unfold mfc at e; omega)]; exact x3 a k e⟩, x5.of rfl rfl, by rw [uI_ne (by omega)]; exact x6, uI_at, by rw [uI_ne (by omega)]; exact x8, fun k hk => by rw [uI_ne (by omega)]; exact x9 k hk⟩
theorem MR.wr (X : MR h q t n c p) {a k : Nat} {v : Int32} (e : (a = 85 ∧ (k = 20 ∨ k = 24)) ∨ (96 ≤ a ∧ a ≤ 99)) : MR h (uI q a k v) t n c p := by
  obtain ⟨⟨x1, x2, x3⟩, x5, x6, x7, x8, x9⟩ := X
  exact ⟨⟨x1, x2, fun b j f => by rw [uI_ne (by unfold mfc at f; omega)]; exact x3 b j f⟩, x5.of rfl rfl, by rw [uI_ne (by omega)]; exact x6, by rw [uI_ne (by omega)]; exact x7, by rw [uI_ne (by omega)]; exact x8, fun k hk => by rw [uI_ne (by omega)]; exact x9 k hk⟩
theorem m_here (X : MR h q t n c p) (ht : t < 4) (hn : n ≤ 80) (hp : p < n) : fX9_here 85 q = some (c p, q) := by
  obtain ⟨x0, x5, x6, x7, x8, x9⟩ := X
  unfold fX9_here fX9_here_0
  rw [ck_t (sh_85 x5), rf_85_10 x5, br_s, x6, x7, nI_add, ck_t (in_94 x5 (by omega)), nI_clamp (by omega), x9 p hp]
theorem i48 {x : Int32} {a b : Nat} (hb : b ≤ 9) (ha : a ≤ 9) : (((48 : Int32) + nI a).toInt64.toInt ≤ x.toInt ∧ x.toInt ≤ ((48 : Int32) + nI b).toInt64.toInt) ↔ ¬ x < nI (48 + a) ∧ ¬ nI (48 + b) < x := by
  rw [show (48 : Int32) = nI 48 from rfl, nI_add, nI_add, l_of, l_of, nI_toInt (by omega), nI_toInt (by omega), Int32.not_lt, Int32.not_lt, Int32.le_iff_toInt_le, Int32.le_iff_toInt_le, nI_toInt (by omega), nI_toInt (by omega)]
theorem m_isFig (X : MR h q t n c p) (ht : t < 4) (hn : n ≤ 80) (hp : p ≤ 90) : fX9_isFigure 85 q = some (nI (if (fgN c n p).isSome = true then 1 else 0), q) := by
  have X0 := X
  obtain ⟨x0, x5, x6, x7, x8, x9⟩ := X
  unfold fX9_isFigure fX9_isFigure_0
  rw [ck_t (sh_85 x5), x7, x8]
  by_cases z : p < n
  · rw [if_neg (nI_ge z (by omega)), m_here X0 ht hn z, b2_s, p_in, b2_s]
    have e48 : ((48 : Int64).toInt ≤ (c p).toInt ∧ (c p).toInt ≤ (57 : Int64).toInt) ↔ ¬ c p < 48 ∧ ¬ 57 < c p := i48 (x := c p) (a := 0) (b := 9) (by omega) (by omega)
    by_cases y : ¬ c p < 48 ∧ ¬ 57 < c p
    · have ef : fgN c n p = some ((c p).toNatClampNeg - 48) := if_pos ⟨z, y⟩
      rw [if_pos (e48.mpr y), if_neg (by decide), ef]
      rfl
    · have ef : fgN c n p = none := if_neg (fun u => y u.2)
      rw [if_neg (fun u => y (e48.mp u)), if_pos rfl, ef]
      rfl
  · have ef : fgN c n p = none := if_neg (fun u => z u.1)
    rw [if_pos (nI_le (by omega) (by omega)), ef]
    rfl
theorem m_fig_no (X : MR h q t n c p) (ht : t < 4) (hn : n ≤ 80) (hp : p ≤ n) {a b : Nat} (ha : a ≤ 9) (hb : b ≤ 9) (no : ∀ d, fgN c n p = some d → ¬ (a ≤ d ∧ d ≤ b)) : fX9_figure 85 (nI a) (nI b) q = some (-9, q) := by
  have X0 := X
  obtain ⟨x0, x5, x6, x7, x8, x9⟩ := X
  unfold fX9_figure fX9_figure_0
  rw [ck_t (sh_85 x5), x7, x8]
  by_cases z : p = n
  · rw [if_pos (congrArg nI z)]
  · have z : p < n := by omega
    suffices hno : ¬ (((48 : Int32) + nI a).toInt64.toInt ≤ (c p).toInt ∧ (c p).toInt ≤ ((48 : Int32) + nI b).toInt64.toInt) by
      rw [if_neg (fun u => by have := (nI_eq (by omega) (by omega)).mp u; omega), m_here X0 ht hn z, b2_s, p_in, b2_s, if_neg hno, if_pos rfl]
    intro u
    have u := (i48 hb ha).mp u
    have u1 := u.1
    have u2 := u.2
    rw [Int32.not_lt, Int32.le_iff_toInt_le, nI_toInt (by omega)] at u1 u2
    obtain ⟨j, hj, ej⟩ := n_of0 (x := c p) (m := 57) (by omega) (by omega) (by decide)
    rw [ej, nI_toInt (by omega)] at u1 u2
    have y : ¬ c p < 48 ∧ ¬ 57 < c p := ⟨by rw [ej]; exact nI_nlt (b := 48) (by omega) (by omega), by rw [ej]; exact nI_nlt (a := 57) (by omega) (by omega)⟩
    have ef : fgN c n p = some ((c p).toNatClampNeg - 48) := if_pos ⟨z, y⟩
    rw [ej, nI_clamp (by omega)] at ef
    exact no _ ef (by omega)
theorem m_fig_at (X : MR h q t n c p) (ht : t < 4) (hn : n ≤ 80) {a b d : Nat} (ha : a ≤ 9) (hb : b ≤ 9) (e : fgN c n p = some d) (ok : a ≤ d ∧ d ≤ b) : fX9_figure 85 (nI a) (nI b) q = some (nI d, uI q 85 17 (nI (p + 1))) := by
  obtain ⟨z, d9, ec⟩ := fg_some e
  have X0 := X
  have X1 := X.pos (p + 1)
  obtain ⟨y0, y5, y6, y7, y8, y9⟩ := X1
  obtain ⟨x0, x5, x6, x7, x8, x9⟩ := X
  unfold fX9_figure fX9_figure_0
  have sub : nI (80 * t) + nI (p + 1) - (1 : Int32) = nI (80 * t + p) := by
    rw [nI_add, show (1 : Int32) = nI 1 from rfl, pk_sub (by omega)]
    rfl
  rw [ck_t (sh_85 x5), x7, x8, if_neg (fun u => by have := (nI_eq (by omega) (by omega)).mp u; omega), m_here X0 ht hn z, b2_s, p_in, b2_s, if_pos ((i48 hb ha).mpr (by rw [ec]; exact ⟨nI_nlt (by omega) (by omega), nI_nlt (by omega) (by omega)⟩)), if_neg (by decide), ck_t (sh_85 x5), x7, nI_1, lt_d, ck_t (sh_85 y5), rf_85_10 y5, br_s, y6, y7, sub, ck_t (in_94 y5 (by omega)), nI_clamp (by omega), y9 p z, ec, show (48 : Int32) = nI 48 from rfl, pk_sub (by omega), show 48 + d - 48 = d by omega]
/-- only the place changes -/
def mp (h h' : gz_H) : Prop := h'.1 = h.1 ∧ h'.2.2 = h.2.2 ∧ ∀ a k, a ≠ 85 ∨ k ≠ 17 → h'.2.1 a k = h.2.1 a k
theorem mp.rf {h : gz_H} : mp h h := ⟨rfl, rfl, fun _ _ _ => rfl⟩
theorem mp.tr {h h1 h2 : gz_H} (a : mp h h1) (b : mp h1 h2) : mp h h2 := ⟨b.1.trans a.1, b.2.1.trans a.2.1, fun x k e => (b.2.2 x k e).trans (a.2.2 x k e)⟩
theorem mp_p {h : gz_H} {v : Int32} : mp h (uI h 85 17 v) := ⟨rfl, rfl, fun a k e => uI_ne (by omega)⟩
theorem mL.mp {L : List Nat} (x : mL q L) (s : mp q q') : mL q' L := ⟨by rw [s.2.2 85 20 (by omega)]; exact x.1, fun k hk => by rw [s.2.2 96 k (by omega)]; exact x.2 k hk⟩
theorem mG.mp {G : List gz_Gs} (x : mG q G) (s : mp q q') : mG q' G := ⟨by rw [s.2.2 85 24 (by omega)]; exact x.1, fun i hi => by
  obtain ⟨a1, a2, a3, a4, a5⟩ := x.2 i hi
  exact ⟨by rw [s.2.2 97 _ (by omega)]; exact a1, by rw [s.2.2 97 _ (by omega)]; exact a2, by rw [s.2.2 97 _ (by omega)]; exact a3, by rw [s.2.2 98 _ (by omega)]; exact a4, fun k hk => by rw [s.2.2 99 _ (by omega)]; exact a5 k hk⟩⟩
theorem m_skip (ht : t < 4) (hn : n ≤ 80) : ∀ (k p : Nat) (q : gz_H), MR h q t n c p → p ≤ n → n - p ≤ k → ∀ m, k < m → ∃ q', fX9_skip_0 m 85 q = some ((), q') ∧ MR h q' t n c (skN c n k p) ∧ mp q q' := by
  intro k
  induction k with
  | zero =>
    intro p q X hp hk m hm
    obtain ⟨m, rfl⟩ : ∃ j, m = j + 1 := ⟨m - 1, by omega⟩
    refine ⟨q, ?_, X, mp.rf⟩
    obtain ⟨x0, x5, x6, x7, x8, x9⟩ := X
    rw [fX9_skip_0, ck_t (sh_85 x5), x7, x8, if_pos (nI_le (by omega) (by omega))]
  | succ k ih =>
    intro p q X hp hk m hm
    obtain ⟨m, rfl⟩ : ∃ j, m = j + 1 := ⟨m - 1, by omega⟩
    have X0 := X
    obtain ⟨x0, x5, x6, x7, x8, x9⟩ := X
    rw [fX9_skip_0, ck_t (sh_85 x5), x7, x8, skN]
    by_cases z : p < n
    · rw [if_neg (nI_ge z (by omega)), m_here X0 ht hn z, b2_s]
      by_cases y : c p = 32
      · rw [if_pos y, if_pos ⟨z, y⟩, ck_t (sh_85 x5), x7, nI_1, lt_d]
        obtain ⟨q', e1, e2, e3⟩ := ih (p + 1) _ (X0.pos (p + 1)) (by omega) (by omega) m (by omega)
        exact ⟨q', e1, e2, mp_p.tr e3⟩
      · rw [if_neg y, if_neg (fun u => y u.2)]
        exact ⟨q, rfl, X0, mp.rf⟩
    · rw [if_pos (nI_le (by omega) (by omega)), if_neg (fun u => z u.1)]
      exact ⟨q, rfl, X0, mp.rf⟩
theorem m_skipB (X : MR h q t n c p) (ht : t < 4) (hn : n ≤ 80) (hp : p ≤ n) : ∃ q', fX9_skip 85 q = some ((), q') ∧ MR h q' t n c (skN c n (n - p) p) ∧ mp q q' := m_skip ht hn (n - p) p q X hp (Nat.le_refl _) gz_fu (by show n - p < 100000; omega)
theorem m_vill38 (ht : t < 4) (hn : n ≤ 80) : ∀ (k p : Nat) (L : List Nat) (q : gz_H), MR h q t n c p → p ≤ n → n - p ≤ k → L.length ≤ 8 → mL q L → q.2.1 85 24 = nI 0 → ∀ m, k + 1 < m → ∃ q', fX9_readsFacts_38 m 85 (1 : Int32) q = some (nI (if (vlN c n k p L).1 = true then 1 else 0), q') ∧ MR h q' t n c (vlN c n k p L).2.1 ∧ mL q' (vlN c n k p L).2.2 ∧ q'.2.1 85 24 = nI 0 ∧ (vlN c n k p L).2.1 ≤ n ∧ (vlN c n k p L).2.2.length ≤ 8 := by
  have done : ∀ (p : Nat) (L : List Nat) (q : gz_H), MR h q t n c p → L.length ≤ 8 → mL q L → fX9_readsFacts_109 85 (1 : Int32) q = some (nI (if (decide (0 < L.length)) = true then 1 else 0), q) := by
    intro p L q X hL x
    obtain ⟨x0, x5, x6, x7, x8, x9⟩ := X
    unfold fX9_readsFacts_109
    rw [if_neg (by decide), ck_t (sh_85 x5), x.1]
    by_cases z : 0 < L.length
    · rw [if_neg (n_le0 z (by omega)), decide_eq_true z]; rfl
    · rw [show L.length = 0 by omega, if_pos (by decide)]; rfl
  intro k
  induction k with
  | zero =>
    intro p L q X hp hk hL x x24 m hm
    obtain ⟨m, rfl⟩ : ∃ j, m = j + 1 := ⟨m - 1, by omega⟩
    refine ⟨q, ?_, X, x, x24, hp, hL⟩
    have ef : fgN c n p = none := if_neg (fun u => by omega)
    have dn := done p L q X hL x
    have fi := m_isFig X ht hn (by omega)
    rw [ef] at fi
    rw [fX9_readsFacts_38, if_neg (by decide), ck_t (sh_85 X.2.1), fi, b2_s, if_pos (by decide), dn]
    rfl
  | succ k ih =>
    intro p L q X hp hk hL x x24 m hm
    obtain ⟨m, rfl⟩ : ∃ j, m = j + 1 := ⟨m - 1, by omega⟩
    have dn := done p L q X hL x
    have fi := m_isFig X ht hn (by omega)
    have H := X.2.1
    rw [fX9_readsFacts_38, if_neg (by decide), ck_t (sh_85 H), fi, b2_s, vlN]
    cases e : fgN c n p with
    | none =>
      refine ⟨q, ?_, X, x, x24, hp, hL⟩
      rw [if_pos (by decide), dn]
    | some d =>
      obtain ⟨z, d9, ec⟩ := fg_some e
      have no : ∀ K : Nat → Int32 → gz_H → Option (Int32 × gz_H), fX9_readsFacts_69 K 85 (-9 : Int32) q = K 85 0 q := by
        intro K
        unfold fX9_readsFacts_69 fX9_readsFacts_81 fX9_readsFacts_106
        rw [if_pos rfl, if_pos rfl]
      have e0 : fX9_readsFacts_38 m 85 (0 : Int32) q = some (0, q) := by
        obtain ⟨m, rfl⟩ : ∃ j, m = j + 1 := ⟨m - 1, by omega⟩
        rw [fX9_readsFacts_38, if_pos rfl]
        unfold fX9_readsFacts_109
        rw [if_pos rfl]
      rw [if_neg (show ¬ nI (if (some d).isSome = true then 1 else 0) = 0 from (show ¬ nI 1 = (0 : Int32) by decide)), ck_t (sh_85 H), x.1]
      by_cases y : 6 ≤ d ∨ 8 ≤ L.length
      · show ∃ q', _ = some (nI (if (if 6 ≤ d ∨ 8 ≤ L.length then (false, p, L) else vlN c n k (p + 1) (L ++ [d])).1 = true then 1 else 0), q') ∧ MR h q' t n c (if 6 ≤ d ∨ 8 ≤ L.length then (false, p, L) else vlN c n k (p + 1) (L ++ [d])).2.1 ∧ mL q' (if 6 ≤ d ∨ 8 ≤ L.length then (false, p, L) else vlN c n k (p + 1) (L ++ [d])).2.2 ∧ q'.2.1 85 24 = nI 0 ∧ (if 6 ≤ d ∨ 8 ≤ L.length then (false, p, L) else vlN c n k (p + 1) (L ++ [d])).2.1 ≤ n ∧ (if 6 ≤ d ∨ 8 ≤ L.length then (false, p, L) else vlN c n k (p + 1) (L ++ [d])).2.2.length ≤ 8
        rw [if_pos y]
        refine ⟨q, ?_, X, x, x24, hp, hL⟩
        by_cases w : L.length = 8
        · rw [w, if_pos (by decide), no, e0]; rfl
        · rw [if_neg (show ¬ nI L.length = (8 : Int32) from fun u => w ((nI_eq (b := 8) (by omega) (by decide)).mp u)), show (0 : Int32) = nI 0 from rfl, show (5 : Int32) = nI 5 from rfl, m_fig_no X ht hn hp (by omega) (by omega) (fun d' e' => by rw [e] at e'; have := Option.some.inj e'; omega), b2_s, no]
          exact e0
      · have y1 : ¬ 6 ≤ d := fun u => y (Or.inl u)
        have y2 : ¬ 8 ≤ L.length := fun u => y (Or.inr u)
        show ∃ q', _ = some (nI (if (if 6 ≤ d ∨ 8 ≤ L.length then (false, p, L) else vlN c n k (p + 1) (L ++ [d])).1 = true then 1 else 0), q') ∧ MR h q' t n c (if 6 ≤ d ∨ 8 ≤ L.length then (false, p, L) else vlN c n k (p + 1) (L ++ [d])).2.1 ∧ mL q' (if 6 ≤ d ∨ 8 ≤ L.length then (false, p, L) else vlN c n k (p + 1) (L ++ [d])).2.2 ∧ q'.2.1 85 24 = nI 0 ∧ (if 6 ≤ d ∨ 8 ≤ L.length then (false, p, L) else vlN c n k (p + 1) (L ++ [d])).2.1 ≤ n ∧ (if 6 ≤ d ∨ 8 ≤ L.length then (false, p, L) else vlN c n k (p + 1) (L ++ [d])).2.2.length ≤ 8
        rw [if_neg y]
        have X1 := X.pos (p + 1)
        have H1 := X1.2.1
        have x1 := x.mp (mp_p (v := nI (p + 1)))
        have X2 : MR h (uI (uI q 85 17 (nI (p + 1))) 96 L.length (nI d)) t n c (p + 1) := X1.wr (by omega)
        have H2 := X2.2.1
        have X3 : MR h (uI (uI (uI q 85 17 (nI (p + 1))) 96 L.length (nI d)) 85 20 (nI (L.length + 1))) t n c (p + 1) := X2.wr (by omega)
        have x3 : mL (uI (uI (uI q 85 17 (nI (p + 1))) 96 L.length (nI d)) 85 20 (nI (L.length + 1))) (L ++ [d]) := by
          refine ⟨by rw [uI_at, List.length_append]; rfl, fun j hj => ?_⟩
          rw [List.length_append] at hj
          have hj : j < L.length + 1 := hj
          rw [uI_ne (by omega)]
          by_cases u : j = L.length
          · rw [u, uI_at, ld_app]
          · rw [uI_ne (by omega), ld_lt (by omega)]; exact x1.2 j (by omega)
        obtain ⟨q', e1, e2⟩ := ih (p + 1) (L ++ [d]) _ X3 (by omega) (by omega) (by rw [List.length_append]; show L.length + 1 ≤ 8; omega) x3 (by rw [uI_ne (by omega), uI_ne (by omega), uI_ne (by omega)]; exact x24) m (by omega)
        refine ⟨q', ?_, e2⟩
        have ef : fX9_figure 85 (0 : Int32) (5 : Int32) q = some (nI d, uI q 85 17 (nI (p + 1))) := m_fig_at X ht hn (a := 0) (b := 5) (by omega) (by omega) e (by omega)
        rw [if_neg (show ¬ nI L.length = (8 : Int32) from fun u => y2 (by have := (nI_eq (b := 8) (by omega) (by decide)).mp u; omega)), ef, b2_s]
        unfold fX9_readsFacts_69 fX9_readsFacts_81 fX9_readsFacts_106
        rw [if_neg (n_ne9 d (by omega)), if_neg (by decide), ck_t (sh_85 H1), rf_85_19 H1, br_s, x1.1, ck_t (in_96 H1 (by omega)), nI_clamp (by omega), lt_d, ck_t (sh_85 H2), uI_ne (by omega), x1.1, nI_1, lt_d]
        exact e1
theorem m_vill (X : MR h q t n c p) (ht : t < 4) (hn : n ≤ 80) (hp : p ≤ n) (x : mL q []) (x24 : q.2.1 85 24 = nI 0) : ∃ q', fX9_readsFacts 85 q = some (nI (if (viN c n (skN c n (n - p) p)).1 = true then 1 else 0), q') ∧ MR h q' t n c (viN c n (skN c n (n - p) p)).2.1 ∧ mL q' (viN c n (skN c n (n - p) p)).2.2 ∧ q'.2.1 85 24 = nI 0 ∧ (viN c n (skN c n (n - p) p)).2.1 ≤ n ∧ (viN c n (skN c n (n - p) p)).2.2.length ≤ 8 := by
  obtain ⟨q1, e1, X1, s1⟩ := m_skipB X ht hn hp
  have hp1 := sk_le (c := c) (n := n) (n - p) p hp
  have x1 := x.mp s1
  have y24 : q1.2.1 85 24 = nI 0 := by rw [s1.2.2 85 24 (by omega)]; exact x24
  generalize skN c n (n - p) p = p1 at X1 hp1
  have H1 := X1.2.1
  have st : fX9_readsFacts 85 q = if nI p1 = nI n then some ((0 : Int32), q1) else gz_b2 (fX9_here 85 q1) fun y_7 h_6 => if y_7 = (118 : Int32) then gz_ck (gz_sh h_6 85 9 29) (gz_lt (uI h_6 85 17 ((h_6.2.1 85 17) + (1 : Int32))) fun h_10 => fX9_readsFacts_38 gz_fu 85 (1 : Int32) h_10) else some ((0 : Int32), h_6) := by
    unfold fX9_readsFacts fX9_readsFacts_0
    rw [ck_t (sh_85 X.2.1), e1, b2_s, ck_t (sh_85 H1), X1.2.2.2.1, X1.2.2.2.2.1]
  rw [st]
  by_cases z : p1 < n
  · rw [if_neg (fun u => by have := (nI_eq (by omega) (by omega)).mp u; omega), m_here X1 ht hn z, b2_s]
    by_cases y : c p1 = 118
    · have ev : viN c n p1 = vlN c n (n - (p1 + 1)) (p1 + 1) [] := if_pos ⟨z, y⟩
      rw [ev, if_pos y, ck_t (sh_85 H1), X1.2.2.2.1, nI_1, lt_d]
      exact m_vill38 ht hn (n - (p1 + 1)) (p1 + 1) [] _ (X1.pos (p1 + 1)) (by omega) (Nat.le_refl _) (by simp) (x1.mp mp_p) (by rw [uI_ne (by omega)]; exact y24) gz_fu (by show n - (p1 + 1) + 1 < 100000; omega)
    · have ev : viN c n p1 = (false, p1, []) := if_neg (fun u => y u.2)
      rw [ev, if_neg y]
      exact ⟨q1, rfl, X1, x1, y24, hp1, by simp⟩
  · have ev : viN c n p1 = (false, p1, []) := if_neg (fun u => z u.1)
    rw [ev, if_pos (congrArg nI (show p1 = n by omega))]
    exact ⟨q1, rfl, X1, x1, y24, hp1, by simp⟩
end
