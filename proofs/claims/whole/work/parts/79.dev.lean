section
/-! PURE: what a text says, and the class's reader -/
abbrev gz_Gs : Type := Nat × Nat × Nat × List Nat
def g0 : gz_Gs := (0, 0, 0, [])
def TT (L : List Nat) (G : List gz_Gs) : gz_T := (L.length, G.length, fun k => L.getD k 0, fun i => (G.getD i g0).1, fun i => (G.getD i g0).2.1, fun i => (G.getD i g0).2.2.1)
def DD (G : List gz_Gs) : gz_D := fun i => ((G.getD i g0).2.2.2, false)
def fgN (c : Nat → Int32) (n p : Nat) : Option Nat := if p < n ∧ ¬ c p < 48 ∧ ¬ 57 < c p then some ((c p).toNatClampNeg - 48) else none
def skN (c : Nat → Int32) (n : Nat) : Nat → Nat → Nat
  | 0, p => p
  | k + 1, p => if p < n ∧ c p = 32 then skN c n k (p + 1) else p
def vlN (c : Nat → Int32) (n : Nat) : Nat → Nat → List Nat → Bool × Nat × List Nat
  | 0, p, L => (decide (0 < L.length), p, L)
  | k + 1, p, L => match fgN c n p with
    | none => (decide (0 < L.length), p, L)
    | some d => if 6 ≤ d ∨ 8 ≤ L.length then (false, p, L) else vlN c n k (p + 1) (L ++ [d])
def gsN (c : Nat → Int32) (n F mo : Nat) : Nat → Nat → List Nat → Bool × Nat × List Nat
  | 0, p, l => (true, p, l)
  | k + 1, p, l => match fgN c n p with
    | none => (true, p, l)
    | some f => if F ≤ f ∨ f ∈ l ∨ mo ≤ l.length then (false, p, l) else gsN c n F mo k (p + 1) (l ++ [f])
def ltN (x : Int32) : Option Nat := if x = 103 then some 0 else if x = 97 then some 1 else if x = 116 then some 2 else if x = 104 then some 3 else if x = 108 then some 4 else if x = 115 then some 5 else none
def goN (c : Nat → Int32) (n F p : Nat) : Bool × Nat × gz_Gs := match ltN (c p) with
  | none => (false, p, g0)
  | some kd => match fgN c n (p + 1) with
    | none => (false, p + 1, g0)
    | some mo => if mo = 0 ∨ 9 ≤ mo then (false, p + 1, g0) else match fgN c n (p + 2) with
      | none => (false, p + 2, g0)
      | some rk => ((gsN c n F mo (n - (p + 3)) (p + 3) []).1, (gsN c n F mo (n - (p + 3)) (p + 3) []).2.1, (kd, mo, rk, (gsN c n F mo (n - (p + 3)) (p + 3) []).2.2))
/-- the geese: none, with the place, or all -/
def flN (c : Nat → Int32) (n F : Nat) : Nat → Nat → List gz_Gs → Bool × Nat × List gz_Gs
  | 0, p, G => (decide (¬ p < n), p, G)
  | k + 1, p, G => if p < n then (if (goN c n F p).1 = true then flN c n F k (skN c n (n - (goN c n F p).2.1) (goN c n F p).2.1) (G ++ [(goN c n F p).2.2]) else (false, (goN c n F p).2.1, G)) else (decide (0 < G.length), p, G)
theorem fg_some {c : Nat → Int32} {n p d : Nat} (e : fgN c n p = some d) : p < n ∧ d ≤ 9 ∧ c p = nI (48 + d) := by
  unfold fgN at e
  by_cases q : p < n ∧ ¬ c p < 48 ∧ ¬ 57 < c p
  · rw [if_pos q] at e
    have e := Option.some.inj e
    obtain ⟨q1, q2, q3⟩ := q
    have q2 := Int32.not_lt.mp q2
    have q3 := Int32.not_lt.mp q3
    rw [Int32.le_iff_toInt_le] at q2 q3
    have q2 : (48 : Int) ≤ (c p).toInt := q2
    have q3 : (c p).toInt ≤ 57 := q3
    obtain ⟨j, hj, ej⟩ := n_of0 (x := c p) (m := 57) (by omega) (by omega) (by decide)
    rw [ej, nI_toInt (by omega)] at q2
    rw [ej, nI_clamp (by omega)] at e
    exact ⟨q1, by omega, by rw [ej]; exact congrArg nI (by omega)⟩
  · rw [if_neg q] at e
    exact absurd e (by simp)
theorem fg_none {c : Nat → Int32} {n p : Nat} (e : fgN c n p = none) : ¬ (p < n ∧ ¬ c p < 48 ∧ ¬ 57 < c p) := by
  unfold fgN at e
  intro q
  rw [if_pos q] at e
  exact absurd e (by simp)
theorem sk_le {c : Nat → Int32} {n : Nat} : ∀ k p, p ≤ n → skN c n k p ≤ n := by
  intro k
  induction k with
  | zero => intro p h; exact h
  | succ k ih =>
    intro p h
    rw [skN]
    by_cases q : p < n ∧ c p = 32
    · rw [if_pos q]; exact ih (p + 1) (by omega)
    · rw [if_neg q]; exact h
/-- only the reader's own fields change -/
def sp (h h' : gz_H) : Prop := h'.1 = h.1 ∧ h'.2.2 = h.2.2 ∧ ∀ a k, a ≠ 17 → h'.2.1 a k = h.2.1 a k
theorem sp.rf {h : gz_H} : sp h h := ⟨rfl, rfl, fun _ _ _ => rfl⟩
theorem sp.tr {h h1 h2 : gz_H} (a : sp h h1) (b : sp h1 h2) : sp h h2 := ⟨b.1.trans a.1, b.2.1.trans a.2.1, fun x k e => (b.2.2 x k e).trans (a.2.2 x k e)⟩
theorem sp_p {h : gz_H} {v : Int32} : sp h (uI h 17 2 v) := ⟨rfl, rfl, fun a k e => uI_ne (by omega)⟩
def CF (h q : gz_H) (dr : Nat) : Prop := q.1 = h.1 ∧ q.2.2.1 = h.2.2.1 ∧ (∀ a k, a ≠ 17 → q.2.2.2 a k = h.2.2.2 a k) ∧ ∀ a k, a ≠ 17 → ¬ (dr ≤ a ∧ a ≤ dr + 14) → q.2.1 a k = h.2.1 a k
def XR (h q : gz_H) (t dr n : Nat) (c : Nat → Int32) (p : Nat) : Prop := CF h q dr ∧ gz_La q ∧ q.2.2.2 17 0 = some (12 + t) ∧ q.2.2.2 17 3 = some dr ∧ q.2.1 17 1 = nI n ∧ q.2.1 17 2 = nI p ∧ ∀ k, k < n → q.2.1 (12 + t) k = c k
section
variable {h q q' : gz_H} {t dr n p : Nat} {c : Nat → Int32}
theorem XR.pos (X : XR h q t dr n c p) (p' : Nat) (ht : t < 4) : XR h (uI q 17 2 (nI p')) t dr n c p' := by
  obtain ⟨⟨x1, x2, x3, x4⟩, x5, x6, x7, x8, x9, x10⟩ := X
  exact ⟨⟨x1, x2, x3, fun a k e f => by rw [uI_ne (by omega)]; exact x4 a k e f⟩, x5.of rfl rfl, x6, x7, by rw [uI_ne (by omega)]; exact x8, uI_at, fun k hk => by rw [uI_ne (by omega)]; exact x10 k hk⟩
theorem XR.blk (X : XR h q t dr n c p) (ht : t < 4) (hd : dr = 43 ∨ dr = 58) (e1 : q'.1 = q.1) (e2 : q'.2.2 = q.2.2) (e3 : ∀ a k, ¬ (dr ≤ a ∧ a ≤ dr + 14) → q'.2.1 a k = q.2.1 a k) : XR h q' t dr n c p := by
  obtain ⟨⟨x1, x2, x3, x4⟩, x5, x6, x7, x8, x9, x10⟩ := X
  have e22 : q'.2.2.2 = q.2.2.2 := congrArg Prod.snd e2
  exact ⟨⟨e1.trans x1, (congrArg Prod.fst e2).trans x2, fun a k e => by rw [e22]; exact x3 a k e, fun a k e f => by rw [e3 a k f]; exact x4 a k e f⟩, x5.of e1 e22, by rw [e22]; exact x6, by rw [e22]; exact x7, by rw [e3 _ _ (by omega)]; exact x8, by rw [e3 _ _ (by omega)]; exact x9, fun k hk => by rw [e3 _ _ (by omega)]; exact x10 k hk⟩
theorem sh_x (H : gz_La h) {t : Nat} (ht : t < 4) : h.1[12 + t]? = some (10, 80) := by
  match t, ht with
  | 0, _ => exact H.sh rfl
  | 1, _ => exact H.sh rfl
  | 2, _ => exact H.sh rfl
  | 3, _ => exact H.sh rfl
theorem x_fig (X : XR h q t dr n c p) (ht : t < 4) (hn : n ≤ 80) (hp : p ≤ 90) : fX5_figure 17 q = some (enc (fgN c n p), q) := by
  obtain ⟨x0, x5, x6, x7, x8, x9, x10⟩ := X
  unfold fX5_figure fX5_figure_0
  rw [ck_t (sh_17 x5), x8, x9]
  by_cases z : p < n
  · rw [if_neg (nI_ge z (by omega)), x6, br_s, ck_t (inb_nI (sh_x x5 ht) (by omega) (by decide)), nI_clamp (by omega), x10 p z]
    cases e : fgN c n p with
    | none =>
      have q := fg_none e
      by_cases a : c p < 48
      · rw [if_pos a]; rfl
      · by_cases b : 57 < c p
        · rw [if_neg a, if_pos b]; rfl
        · exact absurd ⟨z, a, b⟩ q
    | some d =>
      obtain ⟨q1, q2, q3⟩ := fg_some e
      rw [q3, if_neg (show ¬ nI (48 + d) < (48 : Int32) from nI_nlt (b := 48) (by omega) (by omega)), if_neg (show ¬ (57 : Int32) < nI (48 + d) from nI_nlt (a := 57) (by omega) (by omega)), show (48 : Int32) = nI 48 from rfl, pk_sub (by omega)]
      show some (nI (48 + d - 48), q) = some (nI d, q)
      rw [show 48 + d - 48 = d by omega]
  · rw [if_pos (nI_le (by omega) (by omega))]
    have : fgN c n p = none := if_neg (fun y => z y.1)
    rw [this]
    rfl
theorem x_skip (ht : t < 4) (hn : n ≤ 80) : ∀ (k p : Nat) (q : gz_H), XR h q t dr n c p → p ≤ n → n - p ≤ k → ∀ m, k < m → ∃ q', fX5_skipBlanks_0 m 17 q = some ((), q') ∧ XR h q' t dr n c (skN c n k p) ∧ sp q q' := by
  intro k
  induction k with
  | zero =>
    intro p q X hp hk m hm
    obtain ⟨m, rfl⟩ : ∃ j, m = j + 1 := ⟨m - 1, by omega⟩
    refine ⟨q, ?_, X, sp.rf⟩
    obtain ⟨x0, x5, x6, x7, x8, x9, x10⟩ := X
    rw [fX5_skipBlanks_0, ck_t (sh_17 x5), x8, x9, if_pos (nI_le (by omega) (by omega))]
  | succ k ih =>
    intro p q X hp hk m hm
    obtain ⟨m, rfl⟩ : ∃ j, m = j + 1 := ⟨m - 1, by omega⟩
    have X0 := X
    obtain ⟨x0, x5, x6, x7, x8, x9, x10⟩ := X
    rw [fX5_skipBlanks_0, ck_t (sh_17 x5), x8, x9, skN]
    by_cases z : p < n
    · rw [if_neg (nI_ge z (by omega)), x6, br_s, ck_t (inb_nI (sh_x x5 ht) (by omega) (by decide)), nI_clamp (by omega), x10 p z]
      by_cases y : c p = 32
      · rw [if_pos y, if_pos ⟨z, y⟩, nI_1, lt_d]
        obtain ⟨q', e1, e2, e3⟩ := ih (p + 1) _ (X0.pos (p + 1) ht) (by omega) (by omega) m (by omega)
        exact ⟨q', e1, e2, sp_p.tr e3⟩
      · rw [if_neg y, if_neg (fun u => y u.2)]
        exact ⟨q, rfl, X0, sp.rf⟩
    · rw [if_pos (nI_le (by omega) (by omega)), if_neg (fun u => z u.1)]
      exact ⟨q, rfl, X0, sp.rf⟩
theorem x_skipB (X : XR h q t dr n c p) (ht : t < 4) (hn : n ≤ 80) (hp : p ≤ n) : ∃ q', fX5_skipBlanks 17 q = some ((), q') ∧ XR h q' t dr n c (skN c n (n - p) p) ∧ sp q q' := x_skip ht hn (n - p) p q X hp (Nat.le_refl _) gz_fu (by show n - p < 100000; omega)
theorem xv_sp {T : gz_T} {D : gz_D} {dr : Nat} (hd : dr = 43 ∨ dr = 58) (hG : T.2.1 ≤ 6) (x : xv q dr T D) (s : sp q q') : xv q' dr T D := x.cg hG s.1 (congrArg Prod.snd s.2.1) (fun a k h1 h2 => s.2.2 a k (by omega))
theorem TT_G {L : List Nat} {G : List gz_Gs} : (TT L G).2.1 = G.length := rfl
theorem x_vill37 (ht : t < 4) (hn : n ≤ 80) (hd : dr = 43 ∨ dr = 58) : ∀ (k p : Nat) (L : List Nat) (q : gz_H), XR h q t dr n c p → p ≤ n → n - p ≤ k → L.length ≤ 8 → (∀ d ∈ L, d ≤ 5) → xv q dr (TT L []) (DD []) → ∀ m, k < m → ∃ q', fX5_readVillage_37 m 17 q = some (nI (if (vlN c n k p L).1 = true then 1 else 0), q') ∧ XR h q' t dr n c (vlN c n k p L).2.1 ∧ xv q' dr (TT (vlN c n k p L).2.2 []) (DD []) ∧ (vlN c n k p L).2.1 ≤ n ∧ (vlN c n k p L).2.2.length ≤ 8 ∧ ∀ d ∈ (vlN c n k p L).2.2, d ≤ 5 := by
  have done : ∀ (p : Nat) (L : List Nat) (q : gz_H), XR h q t dr n c p → L.length ≤ 8 → xv q dr (TT L []) (DD []) → fX5_readVillage_119 17 q = some (nI (if (decide (0 < L.length)) = true then 1 else 0), q) := by
    intro p L q X hL x
    obtain ⟨x0, x5, x6, x7, x8, x9, x10⟩ := X
    have S := x5.fsh (fa := dr) (by omega)
    have f2 : q.2.1 dr 2 = nI L.length := x.1
    unfold fX5_readVillage_119
    rw [ck_t (sh_17 x5), x7, br_s, ck_t (sh_t S.1), f2]
    by_cases z : 0 < L.length
    · rw [if_neg (n_le0 z (by omega)), decide_eq_true z]; rfl
    · rw [show L.length = 0 by omega, if_pos (by decide)]; rfl
  intro k
  induction k with
  | zero =>
    intro p L q X hp hk hL hb x m hm
    obtain ⟨m, rfl⟩ : ∃ j, m = j + 1 := ⟨m - 1, by omega⟩
    refine ⟨q, ?_, X, x, hp, hL, hb⟩
    have dn := done p L q X hL x
    obtain ⟨x0, x5, x6, x7, x8, x9, x10⟩ := X
    rw [fX5_readVillage_37, ck_t (sh_17 x5), x8, x9, if_pos (nI_le (by omega) (by omega)), dn]
    rfl
  | succ k ih =>
    intro p L q X hp hk hL hb x m hm
    obtain ⟨m, rfl⟩ : ∃ j, m = j + 1 := ⟨m - 1, by omega⟩
    have dn := done p L q X hL x
    have fg := x_fig X ht hn (by omega)
    have X0 := X
    obtain ⟨x0, x5, x6, x7, x8, x9, x10⟩ := X
    have S := x5.fsh (fa := dr) (by omega)
    rw [fX5_readVillage_37, ck_t (sh_17 x5), x8, x9, vlN]
    cases e : fgN c n p with
    | none =>
      refine ⟨q, ?_, X0, x, hp, hL, hb⟩
      by_cases z : p < n
      · rw [if_neg (nI_ge z (by omega)), fg, e, b2_s, if_pos enc_n, dn]
      · rw [if_pos (nI_le (by omega) (by omega)), dn]
    | some d =>
      obtain ⟨z, d9, ec⟩ := fg_some e
      have f2 : q.2.1 dr 2 = nI L.length := x.1
      have hs : ¬ enc (some d) = (-9 : Int32) := enc_ne (by omega)
      rw [if_neg (nI_ge z (by omega)), fg, e, b2_s, if_neg hs, ck_t (sh_17 x5), fg, e, b2_s, show enc (some d) = nI d from rfl]
      by_cases y : 6 ≤ d ∨ 8 ≤ L.length
      · show ∃ q', _ = some (nI (if (if 6 ≤ d ∨ 8 ≤ L.length then (false, p, L) else vlN c n k (p + 1) (L ++ [d])).1 = true then 1 else 0), q') ∧ XR h q' t dr n c (if 6 ≤ d ∨ 8 ≤ L.length then (false, p, L) else vlN c n k (p + 1) (L ++ [d])).2.1 ∧ xv q' dr (TT (if 6 ≤ d ∨ 8 ≤ L.length then (false, p, L) else vlN c n k (p + 1) (L ++ [d])).2.2 []) (DD []) ∧ (if 6 ≤ d ∨ 8 ≤ L.length then (false, p, L) else vlN c n k (p + 1) (L ++ [d])).2.1 ≤ n ∧ (if 6 ≤ d ∨ 8 ≤ L.length then (false, p, L) else vlN c n k (p + 1) (L ++ [d])).2.2.length ≤ 8 ∧ ∀ x ∈ (if 6 ≤ d ∨ 8 ≤ L.length then (false, p, L) else vlN c n k (p + 1) (L ++ [d])).2.2, x ≤ 5
        rw [if_pos y]
        refine ⟨q, ?_, X0, x, hp, hL, hb⟩
        by_cases w : 6 ≤ d
        · rw [if_pos (show (6 : Int32) ≤ nI d from nI_le (a := 6) w (by omega))]; rfl
        · rw [if_neg (show ¬ (6 : Int32) ≤ nI d from nI_ge (b := 6) (by omega) (by decide)), ck_t (sh_17 x5), x7, br_s, ck_t (sh_t S.1), f2, if_neg (show ¬ nI L.length < (8 : Int32) from nI_nlt (b := 8) (by omega) (by omega))]; rfl
      · have y1 : ¬ 6 ≤ d := fun u => y (Or.inl u)
        have y2 : ¬ 8 ≤ L.length := fun u => y (Or.inr u)
        show ∃ q', _ = some (nI (if (if 6 ≤ d ∨ 8 ≤ L.length then (false, p, L) else vlN c n k (p + 1) (L ++ [d])).1 = true then 1 else 0), q') ∧ XR h q' t dr n c (if 6 ≤ d ∨ 8 ≤ L.length then (false, p, L) else vlN c n k (p + 1) (L ++ [d])).2.1 ∧ xv q' dr (TT (if 6 ≤ d ∨ 8 ≤ L.length then (false, p, L) else vlN c n k (p + 1) (L ++ [d])).2.2 []) (DD []) ∧ (if 6 ≤ d ∨ 8 ≤ L.length then (false, p, L) else vlN c n k (p + 1) (L ++ [d])).2.1 ≤ n ∧ (if 6 ≤ d ∨ 8 ≤ L.length then (false, p, L) else vlN c n k (p + 1) (L ++ [d])).2.2.length ≤ 8 ∧ ∀ x ∈ (if 6 ≤ d ∨ 8 ≤ L.length then (false, p, L) else vlN c n k (p + 1) (L ++ [d])).2.2, x ≤ 5
        rw [if_neg y]
        have X1 : XR h (uI q dr 2 (nI (L.length + 1))) t dr n c p := X0.blk ht hd rfl rfl (fun a k f => uI_ne (by omega))
        have H1 := X1.2.1
        have fg1 := x_fig X1 ht hn (by omega)
        have X2 : XR h (uI (uI q dr 2 (nI (L.length + 1))) (dr + 1) L.length (nI d)) t dr n c p := X1.blk ht hd rfl rfl (fun a k f => uI_ne (by omega))
        have H2 := X2.2.1
        have S1 := H1.fsh (fa := dr) (by omega)
        have X3 := X2.pos (p + 1) ht
        have xx : xv (uI (uI (uI q dr 2 (nI (L.length + 1))) (dr + 1) L.length (nI d)) 17 2 (nI (p + 1))) dr (TT (L ++ [d]) []) (DD []) := by
          refine ⟨?_, ?_, fun j hj => ?_, fun i hi => absurd hi (by show ¬ i < 0; omega)⟩
          · rw [uI_ne (by omega), uI_ne (by omega), uI_at]
            show _ = nI (L ++ [d]).length
            rw [List.length_append]; rfl
          · rw [uI_ne (by omega), uI_ne (by omega), uI_ne (by omega)]; exact x.2.1
          · have hj : j < (L ++ [d]).length := hj
            rw [List.length_append] at hj
            have hj : j < L.length + 1 := hj
            rw [uI_ne (by omega)]
            show _ = nI ((L ++ [d]).getD j 0)
            by_cases u : j = L.length
            · rw [u, uI_at, ld_app]
            · rw [uI_ne (by omega), uI_ne (by omega), ld_lt (by omega)]
              exact x.2.2.1 j (by show j < L.length; omega)
        obtain ⟨q', e1, e2⟩ := ih (p + 1) (L ++ [d]) _ X3 (by omega) (by omega) (by rw [List.length_append]; show L.length + 1 ≤ 8; omega) (fun x hx => (List.mem_append.mp hx).elim (hb x) (fun u => by rw [List.mem_singleton.mp u]; omega)) xx m (by omega)
        refine ⟨q', ?_, e2⟩
        rw [if_neg (show ¬ (6 : Int32) ≤ nI d from nI_ge (b := 6) (by omega) (by decide)), ck_t (sh_17 x5), x7, br_s, ck_t (sh_t S.1), f2, if_pos (show nI L.length < (8 : Int32) from nI_lt (b := 8) (by omega) (by decide)), S.2.2.2.1, br_s, nI_1, lt_d, ck_t (sh_17 H1), fg1, e, b2_s, ck_t (inb_nI S1.2.1 (by omega) (by decide)), nI_clamp (by omega), lt_d, show enc (some d) = nI d from rfl, ck_t (sh_17 H2), X2.2.2.2.2.2.1, nI_1, lt_d]
        exact e1
end
end
section
/-! PURE: the class's reader: geese, a whole text -/
def viN (c : Nat → Int32) (n p : Nat) : Bool × Nat × List Nat := if p < n ∧ c p = 118 then vlN c n (n - (p + 1)) (p + 1) [] else (false, p, [])
/-- a goose that a text may hold -/
def gkN (F : Nat) (g : gz_Gs) : Prop := g.1 ≤ 5 ∧ (1 ≤ g.2.1 ∧ g.2.1 ≤ 8) ∧ g.2.2.1 ≤ 9 ∧ g.2.2.2.length ≤ g.2.1 ∧ g.2.2.2.Nodup ∧ ∀ f ∈ g.2.2.2, f < F
def rdN (c : Nat → Int32) (n : Nat) : Bool × Nat × List Nat × List gz_Gs :=
  if (viN c n (skN c n n 0)).1 = true then ((flN c n (viN c n (skN c n n 0)).2.2.length 6 (skN c n (n - (viN c n (skN c n n 0)).2.1) (viN c n (skN c n n 0)).2.1) []).1, (flN c n (viN c n (skN c n n 0)).2.2.length 6 (skN c n (n - (viN c n (skN c n n 0)).2.1) (viN c n (skN c n n 0)).2.1) []).2.1, (viN c n (skN c n n 0)).2.2, (flN c n (viN c n (skN c n n 0)).2.2.length 6 (skN c n (n - (viN c n (skN c n n 0)).2.1) (viN c n (skN c n n 0)).2.1) []).2.2) else (false, (viN c n (skN c n n 0)).2.1, (viN c n (skN c n n 0)).2.2, [])
def fgf (q q' : gz_H) (g : Nat) : Prop := q'.1 = q.1 ∧ q'.2.2 = q.2.2 ∧ (∀ a k, a ≠ 17 → a ≠ g → a ≠ g + 1 → q'.2.1 a k = q.2.1 a k) ∧ ∀ k, k ≠ 1 → q'.2.1 g k = q.2.1 g k
theorem fgf.rf {q : gz_H} {g : Nat} : fgf q q g := ⟨rfl, rfl, fun _ _ _ _ _ => rfl, fun _ _ => rfl⟩
theorem fgf.tr {q q1 q2 : gz_H} {g : Nat} (a : fgf q q1 g) (b : fgf q1 q2 g) : fgf q q2 g := ⟨b.1.trans a.1, b.2.1.trans a.2.1, fun x k e1 e2 e3 => (b.2.2.1 x k e1 e2 e3).trans (a.2.2.1 x k e1 e2 e3), fun k e => (b.2.2.2 k e).trans (a.2.2.2 k e)⟩
section
variable {h q q' : gz_H} {t dr n p : Nat} {c : Nat → Int32}
theorem x_vill (X : XR h q t dr n c p) (ht : t < 4) (hn : n ≤ 80) (hd : dr = 43 ∨ dr = 58) (hp : p ≤ n) (x : xv q dr (TT [] []) (DD [])) : ∃ q', fX5_readVillage 17 q = some (nI (if (viN c n p).1 = true then 1 else 0), q') ∧ XR h q' t dr n c (viN c n p).2.1 ∧ xv q' dr (TT (viN c n p).2.2 []) (DD []) ∧ (viN c n p).2.1 ≤ n ∧ (viN c n p).2.2.length ≤ 8 ∧ ∀ d ∈ (viN c n p).2.2, d ≤ 5 := by
  have X0 := X
  obtain ⟨x0, x5, x6, x7, x8, x9, x10⟩ := X
  unfold fX5_readVillage fX5_readVillage_0
  rw [ck_t (sh_17 x5), x8, x9]
  by_cases z : p < n
  · rw [if_neg (nI_ge z (by omega)), x6, br_s, ck_t (inb_nI (sh_x x5 ht) (by omega) (by decide)), nI_clamp (by omega), x10 p z]
    by_cases y : c p = 118
    · have ev : viN c n p = vlN c n (n - (p + 1)) (p + 1) [] := if_pos ⟨z, y⟩
      rw [ev, if_pos y, nI_1, lt_d]
      exact x_vill37 ht hn hd (n - (p + 1)) (p + 1) [] _ (X0.pos (p + 1) ht) (by omega) (Nat.le_refl _) (by simp) (fun d hd => absurd hd (by simp)) (xv_sp hd (by show 0 ≤ 6; omega) x sp_p) gz_fu (by show n - (p + 1) < 100000; omega)
    · have ev : viN c n p = (false, p, []) := if_neg (fun u => y u.2)
      rw [ev, if_neg y]
      exact ⟨q, rfl, X0, x, hp, by simp, fun d hd => absurd hd (by simp)⟩
  · have ev : viN c n p = (false, p, []) := if_neg (fun u => z u.1)
    rw [ev, if_pos (nI_le (by omega) (by omega))]
    exact ⟨q, rfl, X0, x, hp, by simp, fun d hd => absurd hd (by simp)⟩
theorem x_gs (ht : t < 4) (hn : n ≤ 80) (hd : dr = 43 ∨ dr = 58) {F mo i : Nat} (hF : F ≤ 8) (h1 : 1 ≤ mo) (hm : mo ≤ 8) (hi : i < 6) : ∀ (k p : Nat) (l : List Nat) (q : gz_H), XR h q t dr n c p → p ≤ n → n - p ≤ k → gv q (dr + 3 + 2 * i) l → q.2.1 (dr + 3 + 2 * i) 3 = nI mo → q.2.1 dr 2 = nI F → (∀ f ∈ l, f < F) → l.Nodup → l.length ≤ mo → ∀ m, k < m → ∃ q', fX5_readGoose_111 m 17 (dr + 3 + 2 * i) q = (if (gsN c n F mo k p l).1 = true then fX5_readGoose_190 17 q' else some (0, q')) ∧ XR h q' t dr n c (gsN c n F mo k p l).2.1 ∧ gv q' (dr + 3 + 2 * i) (gsN c n F mo k p l).2.2 ∧ fgf q q' (dr + 3 + 2 * i) ∧ (gsN c n F mo k p l).2.1 ≤ n ∧ (∀ f ∈ (gsN c n F mo k p l).2.2, f < F) ∧ (gsN c n F mo k p l).2.2.Nodup ∧ (gsN c n F mo k p l).2.2.length ≤ mo := by
  intro k
  induction k with
  | zero =>
    intro p l q X hp hk G g3 d2 lb nd hl m hm'
    obtain ⟨m, rfl⟩ : ∃ j, m = j + 1 := ⟨m - 1, by omega⟩
    refine ⟨q, ?_, X, G, fgf.rf, hp, lb, nd, hl⟩
    obtain ⟨x0, x5, x6, x7, x8, x9, x10⟩ := X
    rw [fX5_readGoose_111, ck_t (sh_17 x5), x8, x9, if_pos (nI_le (by omega) (by omega))]
    rfl
  | succ k ih =>
    intro p l q X hp hk G g3 d2 lb nd hl m hm'
    obtain ⟨m, rfl⟩ : ∃ j, m = j + 1 := ⟨m - 1, by omega⟩
    have fg := x_fig X ht hn (by omega)
    have X0 := X
    obtain ⟨x0, x5, x6, x7, x8, x9, x10⟩ := X
    have S := x5.fsh (fa := dr) (by omega)
    have sg := (S.2.2.2.2.2 i hi).2
    have lb8 : ∀ x ∈ l, x < 8 := fun x hx => Nat.lt_of_lt_of_le (lb x hx) hF
    rw [fX5_readGoose_111, ck_t (sh_17 x5), x8, x9, gsN]
    cases e : fgN c n p with
    | none =>
      refine ⟨q, ?_, X0, G, fgf.rf, hp, lb, nd, hl⟩
      show _ = (if (true : Bool) = true then fX5_readGoose_190 17 q else some (0, q))
      rw [if_pos rfl]
      by_cases z : p < n
      · rw [if_neg (nI_ge z (by omega)), fg, e, b2_s, if_pos enc_n]
      · rw [if_pos (nI_le (by omega) (by omega))]
    | some f =>
      obtain ⟨z, f9, ec⟩ := fg_some e
      have hs : ¬ enc (some f) = (-9 : Int32) := enc_ne (by omega)
      rw [if_neg (nI_ge z (by omega)), fg, e, b2_s, if_neg hs, ck_t (sh_17 x5), fg, e, b2_s, ck_t (sh_17 x5), x7, br_s, ck_t (sh_t S.1), show enc (some f) = nI f from rfl]
      have bad : (F ≤ f ∨ f ∈ l ∨ mo ≤ l.length) → (gz_b2 (fX1_hasFact dr (nI f) q) fun y_12 h_11 => if y_12 = 0 then some ((0 : Int32), h_11) else gz_ck (gz_sh h_11 (dr + 3 + 2 * i) 2 6) (gz_b2 (fX2_hasFact (dr + 3 + 2 * i) (nI f) h_11) fun y_16 h_15 => if y_16 = 0 then gz_ck (gz_sh h_15 (dr + 3 + 2 * i) 2 6) (gz_b2 (fX2_isFilled (dr + 3 + 2 * i) h_15) fun y_20 h_19 => if y_20 = 0 then gz_ck (gz_sh h_19 (dr + 3 + 2 * i) 2 6) (gz_b2 (fX2_take (dr + 3 + 2 * i) (nI f) h_19) fun y_24 h_23 => gz_ck (gz_sh h_23 17 5 4) (gz_lt (uI h_23 17 2 ((h_23.2.1 17 2) + (1 : Int32))) fun h_27 => fX5_readGoose_111 m 17 (dr + 3 + 2 * i) h_27)) else some ((0 : Int32), h_19)) else some ((0 : Int32), h_15))) = some (0, q) := by
        intro y
        unfold fX1_hasFact fX1_hasFact_0
        rw [if_neg (nI_pos (by omega)), ck_t (sh_t S.1), d2]
        by_cases y1 : F ≤ f
        · rw [if_pos (nI_le y1 (by omega)), b2_s, if_pos rfl]
        · rw [if_neg (nI_ge (by omega) (by omega)), b2_s, if_neg (by decide), ck_t (sh_t sg.1), x_hasFact G lb8 (by omega), b2_s]
          by_cases y2 : f ∈ l
          · rw [if_pos y2, if_neg (by decide)]
          · have y3 : mo ≤ l.length := (y.resolve_left y1).resolve_left y2
            rw [if_neg y2, if_pos rfl, ck_t (sh_t sg.1), x_isFilled G g3 hm, if_pos y3, b2_s, if_neg (by decide)]
      by_cases y : F ≤ f ∨ f ∈ l ∨ mo ≤ l.length
      · show ∃ q', _ = (if (if F ≤ f ∨ f ∈ l ∨ mo ≤ l.length then (false, p, l) else gsN c n F mo k (p + 1) (l ++ [f])).1 = true then fX5_readGoose_190 17 q' else some (0, q')) ∧ XR h q' t dr n c (if F ≤ f ∨ f ∈ l ∨ mo ≤ l.length then (false, p, l) else gsN c n F mo k (p + 1) (l ++ [f])).2.1 ∧ gv q' (dr + 3 + 2 * i) (if F ≤ f ∨ f ∈ l ∨ mo ≤ l.length then (false, p, l) else gsN c n F mo k (p + 1) (l ++ [f])).2.2 ∧ fgf q q' (dr + 3 + 2 * i) ∧ (if F ≤ f ∨ f ∈ l ∨ mo ≤ l.length then (false, p, l) else gsN c n F mo k (p + 1) (l ++ [f])).2.1 ≤ n ∧ (∀ f' ∈ (if F ≤ f ∨ f ∈ l ∨ mo ≤ l.length then (false, p, l) else gsN c n F mo k (p + 1) (l ++ [f])).2.2, f' < F) ∧ (if F ≤ f ∨ f ∈ l ∨ mo ≤ l.length then (false, p, l) else gsN c n F mo k (p + 1) (l ++ [f])).2.2.Nodup ∧ (if F ≤ f ∨ f ∈ l ∨ mo ≤ l.length then (false, p, l) else gsN c n F mo k (p + 1) (l ++ [f])).2.2.length ≤ mo
        rw [if_pos y]
        exact ⟨q, (bad y).trans rfl, X0, G, fgf.rf, hp, lb, nd, hl⟩
      · have y1 : ¬ F ≤ f := fun u => y (Or.inl u)
        have y2 : ¬ f ∈ l := fun u => y (Or.inr (Or.inl u))
        have y3 : ¬ mo ≤ l.length := fun u => y (Or.inr (Or.inr u))
        show ∃ q', _ = (if (if F ≤ f ∨ f ∈ l ∨ mo ≤ l.length then (false, p, l) else gsN c n F mo k (p + 1) (l ++ [f])).1 = true then fX5_readGoose_190 17 q' else some (0, q')) ∧ XR h q' t dr n c (if F ≤ f ∨ f ∈ l ∨ mo ≤ l.length then (false, p, l) else gsN c n F mo k (p + 1) (l ++ [f])).2.1 ∧ gv q' (dr + 3 + 2 * i) (if F ≤ f ∨ f ∈ l ∨ mo ≤ l.length then (false, p, l) else gsN c n F mo k (p + 1) (l ++ [f])).2.2 ∧ fgf q q' (dr + 3 + 2 * i) ∧ (if F ≤ f ∨ f ∈ l ∨ mo ≤ l.length then (false, p, l) else gsN c n F mo k (p + 1) (l ++ [f])).2.1 ≤ n ∧ (∀ f' ∈ (if F ≤ f ∨ f ∈ l ∨ mo ≤ l.length then (false, p, l) else gsN c n F mo k (p + 1) (l ++ [f])).2.2, f' < F) ∧ (if F ≤ f ∨ f ∈ l ∨ mo ≤ l.length then (false, p, l) else gsN c n F mo k (p + 1) (l ++ [f])).2.2.Nodup ∧ (if F ≤ f ∨ f ∈ l ∨ mo ≤ l.length then (false, p, l) else gsN c n F mo k (p + 1) (l ++ [f])).2.2.length ≤ mo
        rw [if_neg y]
        obtain ⟨q1, e1, G1, r1⟩ := x_take G lb8 g3 h1 hm hl (f := f) (by omega)
        rw [tk_add y2 y3] at G1
        have X1 : XR h q1 t dr n c p := X0.blk ht hd r1.1 r1.2.1 (fun a k u => r1.2.2.1 a k (by omega) (by omega))
        have H1 := X1.2.1
        have X2 := X1.pos (p + 1) ht
        have G2 : gv (uI q1 17 2 (nI (p + 1))) (dr + 3 + 2 * i) (l ++ [f]) := G1.cg rfl rfl (fun k => ⟨uI_ne (by omega), uI_ne (by omega)⟩)
        obtain ⟨q', e2, a1, a2, a3, a4⟩ := ih (p + 1) (l ++ [f]) _ X2 (by omega) (by omega) G2 (by rw [uI_ne (by omega), r1.2.2.2 3 (by omega)]; exact g3) (by rw [uI_ne (by omega), r1.2.2.1 dr 2 (by omega) (by omega)]; exact d2) (fun x hx => (List.mem_append.mp hx).elim (lb x) (fun u => by rw [List.mem_singleton.mp u]; omega)) (nodup_add nd y2) (by rw [List.length_append]; show l.length + 1 ≤ mo; omega) m (by omega)
        have ff : fgf q q' (dr + 3 + 2 * i) := fgf.tr (q1 := uI q1 17 2 (nI (p + 1))) ⟨r1.1, r1.2.1, fun a k u1 u2 u3 => by rw [uI_ne (by omega)]; exact r1.2.2.1 a k u2 u3, fun k u => by rw [uI_ne (by omega)]; exact r1.2.2.2 k u⟩ a3
        refine ⟨q', ?_, a1, a2, ff, a4⟩
        rw [← e2]
        unfold fX1_hasFact fX1_hasFact_0
        rw [if_neg (nI_pos (by omega)), ck_t (sh_t S.1), d2, if_neg (nI_ge (by omega) (by omega)), b2_s, if_neg (by decide), ck_t (sh_t sg.1), x_hasFact G lb8 (by omega), b2_s, if_neg y2, if_pos rfl, ck_t (sh_t sg.1), x_isFilled G g3 hm, if_neg y3, b2_s, if_pos rfl, ck_t (sh_t sg.1), e1, b2_s, ck_t (sh_17 H1), X1.2.2.2.2.2.1, nI_1, lt_d]
theorem x_letter (X : XR h q t dr n c p) (ht : t < 4) (hn : n ≤ 80) (hp : p < n) : fX5_letter 17 q = some (enc (ltN (c p)), q) := by
  obtain ⟨x0, x5, x6, x7, x8, x9, x10⟩ := X
  have st : ∀ m j, j < 6 → fX5_letter_2 (m + 1) 17 (nI j) q = if c p = gz_lt6 j then some (nI j, q) else fX5_letter_2 m 17 (nI (j + 1)) q := by
    intro m j hj
    have i6 : gz_in6 (nI j) = true := by
      unfold gz_in6
      rw [nI_clamp (by omega), decide_eq_false (nI_pos (by omega)), decide_eq_true hj]; rfl
    rw [fX5_letter_2, if_neg (show ¬ (6 : Int32) ≤ nI j from nI_ge hj (by decide)), ck_t (sh_17 x5), x8, x9, if_neg (nI_ge hp (by omega)), x6, br_s, ck_t (inb_nI (sh_x x5 ht) (by omega) (by decide)), nI_clamp (by omega), nI_clamp (by omega), x10 p hp, ck_t i6, nI_1]
  unfold fX5_letter fX5_letter_0
  show fX5_letter_2 (99993 + 1 + 1 + 1 + 1 + 1 + 1 + 1) 17 (nI 0) q = _
  have e6 : fX5_letter_2 (99993 + 1) 17 (nI (5 + 1)) q = some (-9, q) := by rw [fX5_letter_2, if_pos (show (6 : Int32) ≤ nI (5 + 1) by decide)]
  rw [st _ 0 (by omega), st _ 1 (by omega), st _ 2 (by omega), st _ 3 (by omega), st _ 4 (by omega), st _ 5 (by omega), e6, show gz_lt6 0 = 103 from rfl, show gz_lt6 (0 + 1) = 97 from rfl, show gz_lt6 (1 + 1) = 116 from rfl, show gz_lt6 (2 + 1) = 104 from rfl, show gz_lt6 (3 + 1) = 108 from rfl, show gz_lt6 (4 + 1) = 115 from rfl]
  unfold ltN
  by_cases a0 : c p = 103
  · rw [if_pos a0, if_pos a0]; rfl
  rw [if_neg a0, if_neg a0]
  by_cases a1 : c p = 97
  · rw [if_pos a1, if_pos a1]; rfl
  rw [if_neg a1, if_neg a1]
  by_cases a2 : c p = 116
  · rw [if_pos a2, if_pos a2]; rfl
  rw [if_neg a2, if_neg a2]
  by_cases a3 : c p = 104
  · rw [if_pos a3, if_pos a3]; rfl
  rw [if_neg a3, if_neg a3]
  by_cases a4 : c p = 108
  · rw [if_pos a4, if_pos a4]; rfl
  rw [if_neg a4, if_neg a4]
  by_cases a5 : c p = 115
  · rw [if_pos a5, if_pos a5]; rfl
  rw [if_neg a5, if_neg a5]
  rfl
theorem lt_5 {x : Int32} {k : Nat} (e : ltN x = some k) : k ≤ 5 := by
  unfold ltN at e
  by_cases a0 : x = 103
  · rw [if_pos a0] at e; have := Option.some.inj e; omega
  rw [if_neg a0] at e
  by_cases a1 : x = 97
  · rw [if_pos a1] at e; have := Option.some.inj e; omega
  rw [if_neg a1] at e
  by_cases a2 : x = 116
  · rw [if_pos a2] at e; have := Option.some.inj e; omega
  rw [if_neg a2] at e
  by_cases a3 : x = 104
  · rw [if_pos a3] at e; have := Option.some.inj e; omega
  rw [if_neg a3] at e
  by_cases a4 : x = 108
  · rw [if_pos a4] at e; have := Option.some.inj e; omega
  rw [if_neg a4] at e
  by_cases a5 : x = 115
  · rw [if_pos a5] at e; have := Option.some.inj e; omega
  rw [if_neg a5] at e
  exact absurd e (by simp)
end
end
section
/-! PURE: the class's reader: a goose, a flock -/
theorem ff_no {P : Prop} (h : (false : Bool) = true) : P := absurd h (by decide)
theorem gl_lt {G : List gz_Gs} {g : gz_Gs} {k : Nat} (h : k < G.length) : (G ++ [g]).getD k g0 = G.getD k g0 := by simp [List.getD, List.getElem?_append_left h]
theorem gl_at {G : List gz_Gs} {g : gz_Gs} : (G ++ [g]).getD G.length g0 = g := by simp [List.getD]
section
variable {h q q' : gz_H} {t dr n p : Nat} {c : Nat → Int32}
theorem x_goose (X : XR h q t dr n c p) (ht : t < 4) (hn : n ≤ 80) (hd : dr = 43 ∨ dr = 58) (hp : p < n) {L : List Nat} {G : List gz_Gs} (hL : L.length ≤ 8) (hG : G.length < 6) (x : xv q dr (TT L G) (DD G)) : ∃ q', fX5_readGoose 17 q = some (nI (if (goN c n L.length p).1 = true then 1 else 0), q') ∧ XR h q' t dr n c (goN c n L.length p).2.1 ∧ (goN c n L.length p).2.1 ≤ n ∧ ((goN c n L.length p).1 = true → xv q' dr (TT L (G ++ [(goN c n L.length p).2.2])) (DD (G ++ [(goN c n L.length p).2.2])) ∧ gkN L.length (goN c n L.length p).2.2) := by
  have lt := x_letter X ht hn hp
  have X0 := X
  obtain ⟨x0, x5, x6, x7, x8, x9, x10⟩ := X
  have S := x5.fsh (fa := dr) (by omega)
  have d3 : q.2.1 dr 3 = nI G.length := x.2.1
  have d2 : q.2.1 dr 2 = nI L.length := x.1
  unfold fX5_readGoose fX5_readGoose_0
  rw [ck_t (sh_17 x5), lt, b2_s]
  cases e0 : ltN (c p) with
  | none =>
    have eg : goN c n L.length p = (false, p, g0) := by unfold goN; rw [e0]
    rw [eg, if_pos enc_n]
    exact ⟨q, rfl, X0, by show p ≤ n; omega, fun z => ff_no z⟩
  | some kd =>
    have k5 := lt_5 e0
    have X1 := X0.pos (p + 1) ht
    have H1 := X1.2.1
    have fg1 := x_fig X1 ht hn (by omega)
    rw [if_neg (enc_ne (by omega)), ck_t (sh_17 x5), x7, br_s, ck_t (sh_t S.1), d3, if_pos (show nI G.length < (6 : Int32) from nI_lt (b := 6) hG (by decide)), x9, nI_1, lt_d, ck_t (sh_17 H1), fg1, b2_s]
    cases e1 : fgN c n (p + 1) with
    | none =>
      have eg : goN c n L.length p = (false, p + 1, g0) := by unfold goN; rw [e0]; show (match fgN c n (p + 1) with | none => _ | some mo => _) = _; rw [e1]
      rw [eg, if_pos (show enc none < (1 : Int32) by decide)]
      exact ⟨_, rfl, X1, by show p + 1 ≤ n; omega, fun z => ff_no z⟩
    | some mo =>
      obtain ⟨z1, m9, _⟩ := fg_some e1
      by_cases y : mo = 0 ∨ 9 ≤ mo
      · have eg : goN c n L.length p = (false, p + 1, g0) := by unfold goN; rw [e0]; show (match fgN c n (p + 1) with | none => _ | some mo => _) = _; rw [e1]; exact if_pos y
        rw [eg]
        refine ⟨_, ?_, X1, by show p + 1 ≤ n; omega, fun z => ff_no z⟩
        by_cases w : mo = 0
        · rw [w, if_pos (show enc (some 0) < (1 : Int32) by decide)]; rfl
        · rw [if_neg (show ¬ enc (some mo) < (1 : Int32) from nI_nlt (b := 1) (by omega) (by omega)), if_neg (show ¬ enc (some mo) ≤ (8 : Int32) from nI_ge (a := 8) (by omega) (by omega))]; rfl
      · have X2 := X1.pos (p + 2) ht
        have H2 := X2.2.1
        have fg2 := x_fig X2 ht hn (by omega)
        rw [if_neg (show ¬ enc (some mo) < (1 : Int32) from nI_nlt (b := 1) (by omega) (by omega)), if_pos (show enc (some mo) ≤ (8 : Int32) from nI_le (b := 8) (by omega) (by decide)), ck_t (sh_17 H1), X1.2.2.2.2.2.1, nI_1, lt_d, ck_t (sh_17 H2), fg2, b2_s]
        cases e2 : fgN c n (p + 2) with
        | none =>
          have eg : goN c n L.length p = (false, p + 2, g0) := by
            unfold goN; rw [e0]; show (match fgN c n (p + 1) with | none => _ | some mo => _) = _
            rw [e1]; refine (if_neg y).trans ?_; rw [e2]
          rw [eg, if_pos enc_n]
          exact ⟨_, rfl, X2, by show p + 2 ≤ n; omega, fun z => ff_no z⟩
        | some rk =>
          obtain ⟨z2, r9, _⟩ := fg_some e2
          have eg : goN c n L.length p = ((gsN c n L.length mo (n - (p + 3)) (p + 3) []).1, (gsN c n L.length mo (n - (p + 3)) (p + 3) []).2.1, (kd, mo, rk, (gsN c n L.length mo (n - (p + 3)) (p + 3) []).2.2)) := by
            unfold goN; rw [e0]; show (match fgN c n (p + 1) with | none => _ | some mo => _) = _
            rw [e1]; refine (if_neg y).trans ?_; rw [e2]
          rw [eg]
          generalize hw : uI (uI q 17 2 (nI (p + 1))) 17 2 (nI (p + 2)) = w2 at X2 H2
          have S2 := H2.fsh (fa := dr) (by omega)
          have sg := S2.2.2.2.2.2 G.length hG
          have w3 : w2.2.1 dr 3 = nI G.length := by rw [← hw, uI_ne (by omega), uI_ne (by omega)]; exact d3
          have ow : ∀ a k, a ≠ 17 → w2.2.1 a k = q.2.1 a k := fun a k u => by rw [← hw, uI_ne (by omega), uI_ne (by omega)]
          generalize hu : uI (uI (uI (uI (uI w2 (dr + 3 + 2 * G.length) 2 (nI kd)) (dr + 3 + 2 * G.length) 3 (nI mo)) (dr + 3 + 2 * G.length) 4 (nI rk)) (dr + 3 + 2 * G.length) 1 (0 : Int32)) (dr + 3 + 2 * G.length) 5 (0 : Int32) = u
          have u1 : u.1 = w2.1 := by rw [← hu]; rfl
          have u2 : u.2.2 = w2.2.2 := by rw [← hu]; rfl
          have uo : ∀ a k, a ≠ dr + 3 + 2 * G.length → u.2.1 a k = w2.2.1 a k := fun a k z => by rw [← hu, uI_ne (by omega), uI_ne (by omega), uI_ne (by omega), uI_ne (by omega), uI_ne (by omega)]
          have v1 : u.2.1 (dr + 3 + 2 * G.length) 1 = nI 0 := by rw [← hu, uI_ne (by omega), uI_at]; rfl
          have v2 : u.2.1 (dr + 3 + 2 * G.length) 2 = nI kd := by rw [← hu, uI_ne (by omega), uI_ne (by omega), uI_ne (by omega), uI_ne (by omega), uI_at]
          have v3 : u.2.1 (dr + 3 + 2 * G.length) 3 = nI mo := by rw [← hu, uI_ne (by omega), uI_ne (by omega), uI_ne (by omega), uI_at]
          have v4 : u.2.1 (dr + 3 + 2 * G.length) 4 = nI rk := by rw [← hu, uI_ne (by omega), uI_ne (by omega), uI_at]
          have v5 : u.2.1 (dr + 3 + 2 * G.length) 5 = 0 := by rw [← hu, uI_at]
          have Xu : XR h u t dr n c (p + 2) := X2.blk ht hd u1 u2 (fun a k z => uo a k (by omega))
          have Hu := Xu.2.1
          have X3 := Xu.pos (p + 3) ht
          have Gu : gv (uI u 17 2 (nI (p + 3))) (dr + 3 + 2 * G.length) [] := by
            have sgu := (X3.2.1.fsh (fa := dr) (by omega)).2.2.2.2.2 G.length hG
            exact ⟨sgu.2.1, sgu.2.2.1, sgu.2.2.2, by decide, by rw [uI_ne (by omega)]; exact v1, fun k hk => absurd hk (by simp)⟩
          obtain ⟨q3, e3, a1, a2, a3, a4, a5, a6, a7⟩ := x_gs ht hn hd hL (by omega) (by omega) hG (mo := mo) (n - (p + 3)) (p + 3) [] (uI u 17 2 (nI (p + 3))) X3 (by omega) (Nat.le_refl _) Gu (by rw [uI_ne (by omega)]; exact v3) (by rw [uI_ne (by omega), uo dr 2 (by omega), ow dr 2 (by omega)]; exact d2) (fun f hf => absurd hf (by simp)) List.nodup_nil (by simp) gz_fu (by show n - (p + 3) < 100000; omega)
          have run : ∀ K : Option (Int32 × gz_H), fX5_readGoose_111 gz_fu 17 (dr + 3 + 2 * G.length) (uI u 17 2 (nI (p + 3))) = K → (if enc (some rk) = (-9 : Int32) then some ((0 : Int32), w2) else gz_ck (gz_sh w2 17 5 4) (gz_br (w2.2.2.2 17 3) fun r_22 => gz_ck (gz_sh w2 r_22 1 4) (gz_br (w2.2.2.2 r_22 1) fun r_24 => gz_ck (gz_inb w2 r_24 11 (w2.2.1 r_22 3)) (gz_br (w2.2.2.2 r_24 (w2.2.1 r_22 3).toNatClampNeg) fun r_26 => gz_ck (gz_sh w2 r_26 2 6) (gz_b2 (fX2_become r_26 (enc (some kd)) (enc (some mo)) (enc (some rk)) w2) fun _ h_27 => gz_ck (gz_sh h_27 17 5 4) (gz_lt (uI h_27 17 2 ((h_27.2.1 17 2) + (1 : Int32))) fun h_31 => fX5_readGoose_111 gz_fu 17 r_26 h_31)))))) = K := by
            intro K hK
            rw [if_neg (enc_ne (by omega)), ck_t (sh_17 H2), X2.2.2.2.1, br_s, ck_t (sh_t S2.1), S2.2.2.2.2.1, br_s, w3, ck_t (inb_nI S2.2.2.1 hG (by decide)), nI_clamp (by omega), sg.1, br_s, ck_t (sh_t sg.2.1), show enc (some kd) = nI kd from rfl, show enc (some mo) = nI mo from rfl, show enc (some rk) = nI rk from rfl]
            unfold fX2_become fX2_become_0
            rw [ck_t (sh_t sg.2.1)]
            simp only [lt_d, sh_uI]
            rw [ck_t (sh_t sg.2.1), ck_t (sh_t sg.2.1), ck_t (sh_t sg.2.1), ck_t (sh_t sg.2.1), hu, b2_s, ck_t (sh_17 Hu), Xu.2.2.2.2.2.1, nI_1]
            exact hK
          cases eb : (gsN c n L.length mo (n - (p + 3)) (p + 3) []).1 with
          | false =>
            rw [eb] at e3
            refine ⟨q3, ?_, a1, a4, fun z => ff_no z⟩
            exact run _ e3
          | true =>
            rw [eb] at e3
            have H3 := a1.2.1
            have S3 := H3.fsh (fa := dr) (by omega)
            have o3 : ∀ a k, a ≠ 17 → a ≠ dr + 3 + 2 * G.length → a ≠ dr + 3 + 2 * G.length + 1 → q3.2.1 a k = q.2.1 a k := fun a k z1 z2 z3 => by rw [a3.2.2.1 a k z1 z2 z3, uI_ne (by omega), uo a k z2, ow a k z1]
            have o4 : ∀ k, k ≠ 1 → q3.2.1 (dr + 3 + 2 * G.length) k = u.2.1 (dr + 3 + 2 * G.length) k := fun k z => by rw [a3.2.2.2 k z, uI_ne (by omega)]
            have e4 : fX5_readGoose_190 17 q3 = some (1, uI q3 dr 3 (nI (G.length + 1))) := by
              unfold fX5_readGoose_190
              rw [ck_t (sh_17 H3), a1.2.2.2.1, br_s, ck_t (sh_t S3.1), o3 dr 3 (by omega) (by omega) (by omega), d3, nI_1, lt_d]
            have X4 : XR h (uI q3 dr 3 (nI (G.length + 1))) t dr n c (gsN c n L.length mo (n - (p + 3)) (p + 3) []).2.1 := a1.blk ht hd rfl rfl (fun a k z => uI_ne (by omega))
            refine ⟨uI q3 dr 3 (nI (G.length + 1)), ?_, X4, a4, fun _ => ⟨⟨?_, ?_, fun k hk => ?_, fun i hi => ?_⟩, k5, ⟨by show 1 ≤ mo; omega, by show mo ≤ 8; omega⟩, r9, a7, a6, a5⟩⟩
            · refine run _ (e3.trans ?_)
              rw [if_pos rfl, e4]
              rfl
            · rw [uI_ne (by omega), o3 dr 2 (by omega) (by omega) (by omega)]; exact d2
            · rw [uI_at]
              show _ = nI (G ++ [_]).length
              rw [List.length_append]; rfl
            · rw [uI_ne (by omega), o3 (dr + 1) k (by omega) (by omega) (by omega)]
              exact x.2.2.1 k hk
            · have hi : i < (G ++ [(kd, mo, rk, (gsN c n L.length mo (n - (p + 3)) (p + 3) []).2.2)]).length := hi
              rw [List.length_append] at hi
              have hi : i < G.length + 1 := hi
              by_cases z : i = G.length
              · subst z
                have sg4 := (X4.2.1.fsh (fa := dr) (by omega)).2.2.2.2.2 G.length hG
                have G3 : gv (uI q3 dr 3 (nI (G.length + 1))) (dr + 3 + 2 * G.length) (gsN c n L.length mo (n - (p + 3)) (p + 3) []).2.2 := a2.cg rfl rfl (fun k => ⟨uI_ne (by omega), uI_ne (by omega)⟩)
                show gv _ _ (((G ++ [_]).getD G.length g0).2.2.2) ∧ _ = nI (((G ++ [_]).getD G.length g0).1) ∧ _ = nI (((G ++ [_]).getD G.length g0).2.1) ∧ _ = nI (((G ++ [_]).getD G.length g0).2.2.1) ∧ _
                rw [gl_at]
                exact ⟨G3, by rw [uI_ne (by omega), o4 2 (by omega)]; exact v2, by rw [uI_ne (by omega), o4 3 (by omega)]; exact v3, by rw [uI_ne (by omega), o4 4 (by omega)]; exact v4, by rw [uI_ne (by omega), o4 5 (by omega), v5]; rfl⟩
              · have hi2 : i < G.length := by omega
                obtain ⟨b1, b2, b3, b4, b5⟩ := x.2.2.2 i hi2
                have oo : ∀ k, (uI q3 dr 3 (nI (G.length + 1))).2.1 (dr + 3 + 2 * i) k = q.2.1 (dr + 3 + 2 * i) k := fun k => by rw [uI_ne (by omega), o3 _ _ (by omega) (by omega) (by omega)]
                have sg4 := (X4.2.1.fsh (fa := dr) (by omega)).2.2.2.2.2 i (by omega)
                show gv _ _ (((G ++ [_]).getD i g0).2.2.2) ∧ _ = nI (((G ++ [_]).getD i g0).1) ∧ _ = nI (((G ++ [_]).getD i g0).2.1) ∧ _ = nI (((G ++ [_]).getD i g0).2.2.1) ∧ _
                rw [gl_lt hi2]
                obtain ⟨c1, c2, c3, c4, c5, c6⟩ := b1
                exact ⟨⟨sg4.2.1, sg4.2.2.1, sg4.2.2.2, c4, by rw [oo]; exact c5, fun k hk => by rw [uI_ne (by omega), o3 _ _ (by omega) (by omega) (by omega)]; exact c6 k hk⟩, by rw [oo]; exact b2, by rw [oo]; exact b3, by rw [oo]; exact b4, by rw [oo, b5]; rfl⟩
theorem x_rf59 (ht : t < 4) (hn : n ≤ 80) (hd : dr = 43 ∨ dr = 58) {L : List Nat} (hL : L.length ≤ 8) : ∀ (k p : Nat) (G : List gz_Gs) (q : gz_H), XR h q t dr n c p → p ≤ n → G.length + k = 6 → xv q dr (TT L G) (DD G) → (∀ g ∈ G, gkN L.length g) → ∀ m, k < m → ∃ q', fX5_readFlock_59 m 17 (nI G.length) q = some (if (flN c n L.length k p G).1 = true then -9 else nI (flN c n L.length k p G).2.1, q') ∧ XR h q' t dr n c (flN c n L.length k p G).2.1 ∧ ((flN c n L.length k p G).1 = true → xv q' dr (TT L (flN c n L.length k p G).2.2) (DD (flN c n L.length k p G).2.2) ∧ (∀ g ∈ (flN c n L.length k p G).2.2, gkN L.length g) ∧ 0 < (flN c n L.length k p G).2.2.length ∧ (flN c n L.length k p G).2.2.length ≤ 6) := by
  have e99 : ∀ (p : Nat) (G : List gz_Gs) (q : gz_H), XR h q t dr n c p → p ≤ n → G.length ≤ 6 → xv q dr (TT L G) (DD G) → fX5_readFlock_99 17 q = some (if p < n ∨ G.length = 0 then nI p else -9, q) := by
    intro p G q X hp hG x
    obtain ⟨x0, x5, x6, x7, x8, x9, x10⟩ := X
    have S := x5.fsh (fa := dr) (by omega)
    have d3 : q.2.1 dr 3 = nI G.length := x.2.1
    unfold fX5_readFlock_99 fX5_readFlock_120
    rw [ck_t (sh_17 x5), x8, x9]
    by_cases z : p < n
    · rw [if_pos (nI_lt z (by omega)), ck_t (sh_17 x5), if_pos (Or.inl z)]
    · rw [if_neg (nI_nlt (by omega) (by omega)), x7, br_s, ck_t (sh_t S.1), d3]
      by_cases y : G.length = 0
      · rw [y, if_pos (by decide), ck_t (sh_17 x5), if_pos (Or.inr rfl)]
      · rw [if_neg (fun u => y ((nI_z (by omega)).mp u)), if_neg (fun u => u.elim z y)]
  intro k
  induction k with
  | zero =>
    intro p G q X hp hG x gk m hm
    obtain ⟨m, rfl⟩ : ∃ j, m = j + 1 := ⟨m - 1, by omega⟩
    have G6 : G.length = 6 := by omega
    refine ⟨q, ?_, X, fun _ => ⟨x, gk, by show 0 < G.length; omega, by show G.length ≤ 6; omega⟩⟩
    rw [fX5_readFlock_59, if_pos (show (6 : Int32) ≤ nI G.length by rw [G6]; decide), e99 p G q X hp (by omega) x]
    show some (if p < n ∨ G.length = 0 then nI p else -9, q) = some (if (decide (¬ p < n)) = true then -9 else nI p, q)
    by_cases z : p < n
    · rw [if_pos (Or.inl z), if_neg (by simpa using z)]
    · rw [if_neg (fun u => u.elim z (by omega)), if_pos (by simpa using z)]
  | succ k ih =>
    intro p G q X hp hG x gk m hm
    obtain ⟨m, rfl⟩ : ∃ j, m = j + 1 := ⟨m - 1, by omega⟩
    have X0 := X
    obtain ⟨x0, x5, x6, x7, x8, x9, x10⟩ := X
    rw [fX5_readFlock_59, if_neg (show ¬ (6 : Int32) ≤ nI G.length from nI_ge (b := 6) (by omega) (by decide)), ck_t (sh_17 x5), x8, x9]
    by_cases z : p < n
    · obtain ⟨q1, e1, X1, p1, f1⟩ := x_goose X0 ht hn hd z hL (by omega) x
      have H1 := X1.2.1
      rw [if_neg (nI_ge z (by omega)), e1, b2_s]
      cases eb : (goN c n L.length p).1 with
      | false =>
        have ef : flN c n L.length (k + 1) p G = (false, (goN c n L.length p).2.1, G) := by rw [flN, if_pos z, if_neg (by rw [eb]; decide)]
        rw [ef]
        refine ⟨q1, ?_, X1, fun u => ff_no u⟩
        rw [if_pos (show nI (if false = true then 1 else 0) = 0 from rfl), ck_t (sh_17 H1), X1.2.2.2.2.2.1]
        rfl
      | true =>
        have ef : flN c n L.length (k + 1) p G = flN c n L.length k (skN c n (n - (goN c n L.length p).2.1) (goN c n L.length p).2.1) (G ++ [(goN c n L.length p).2.2]) := by rw [flN, if_pos z, if_pos eb]
        rw [ef]
        obtain ⟨f1, f2⟩ := f1 eb
        obtain ⟨q2, e2, X2, s2⟩ := x_skipB X1 ht hn p1
        have gl : (G ++ [(goN c n L.length p).2.2]).length = G.length + 1 := by rw [List.length_append]; rfl
        obtain ⟨q3, e3, r3⟩ := ih _ (G ++ [(goN c n L.length p).2.2]) q2 X2 (sk_le _ _ p1) (by omega) (xv_sp hd (by rw [TT_G, gl]; omega) f1 s2) (fun g hg => (List.mem_append.mp hg).elim (gk g) (fun u => by rw [List.mem_singleton.mp u]; exact f2)) m (by omega)
        refine ⟨q3, ?_, r3⟩
        rw [if_pos rfl, if_neg (by decide), ck_t (sh_17 H1), e2, b2_s, nI_1, ← gl]
        exact e3
    · have ef : flN c n L.length (k + 1) p G = (decide (0 < G.length), p, G) := by rw [flN, if_neg z]
      rw [ef]
      refine ⟨q, ?_, X0, fun u => ⟨x, gk, of_decide_eq_true u, by show G.length ≤ 6; omega⟩⟩
      rw [if_pos (nI_le (by omega) (by omega)), e99 p G q X0 hp (by omega) x]
      show some (if p < n ∨ G.length = 0 then nI p else -9, q) = some (if (decide (0 < G.length)) = true then -9 else nI p, q)
      by_cases y : G.length = 0
      · rw [if_pos (Or.inr y), if_neg (by rw [y]; decide)]
      · rw [if_neg (fun u => u.elim z y), if_pos (decide_eq_true (by omega))]
/-- what is read: the answer -/
def rdA (R : Bool × Nat × List Nat × List gz_Gs) : Int32 := if R.1 = true then -9 else nI R.2.1
theorem La_of2 {h h' : gz_H} (H : gz_La h) (e1 : h'.1 = h.1) (e2 : ∀ a k, a ≠ 17 → (a ≠ 0 ∨ (k ≠ 10 ∧ k ≠ 11)) → h'.2.2.2 a k = h.2.2.2 a k) : gz_La h' := by
  refine ⟨e1.trans H.1, fun q hq => ?_⟩
  have : ∀ q ∈ gz_RT, q.1 ≠ 17 ∧ (q.1 ≠ 0 ∨ (q.2.1 ≠ 10 ∧ q.2.1 ≠ 11)) := by decide
  rw [e2 _ _ (this q hq).1 (this q hq).2]
  exact H.2 q hq
theorem x_read (H : gz_La h) (ht : t < 4) (hn : n ≤ 80) (hd : dr = 43 ∨ dr = 58) (hc : ∀ k, k < n → h.2.1 (12 + t) k = c k) : ∃ q', fX5_readFlock 17 (12 + t) (nI n) dr h = some (rdA (rdN c n), q') ∧ CF h q' dr ∧ gz_La q' ∧ ((rdN c n).1 = true → xv q' dr (TT (rdN c n).2.2.1 (rdN c n).2.2.2) (DD (rdN c n).2.2.2) ∧ (0 < (rdN c n).2.2.1.length ∧ (rdN c n).2.2.1.length ≤ 8 ∧ ∀ d ∈ (rdN c n).2.2.1, d ≤ 5) ∧ (0 < (rdN c n).2.2.2.length ∧ (rdN c n).2.2.2.length ≤ 6 ∧ ∀ g ∈ (rdN c n).2.2.2, gkN (rdN c n).2.2.1.length g)) := by
  generalize hu : uI (uI (uR (uI (uI (uR h 17 0 (some (12 + t))) 17 1 (nI n)) 17 2 (0 : Int32)) 17 3 (some dr)) dr 2 (0 : Int32)) dr 3 (0 : Int32) = u
  have H1 : gz_La (uR h 17 0 (some (12 + t))) := La_of2 H rfl (fun a k z _ => by rw [uR_RR, if_neg (by omega)])
  have H2 : gz_La (uI (uR h 17 0 (some (12 + t))) 17 1 (nI n)) := H1.of rfl rfl
  have H3 : gz_La (uI (uI (uR h 17 0 (some (12 + t))) 17 1 (nI n)) 17 2 (0 : Int32)) := H2.of rfl rfl
  have H4 : gz_La (uR (uI (uI (uR h 17 0 (some (12 + t))) 17 1 (nI n)) 17 2 (0 : Int32)) 17 3 (some dr)) := La_of2 H3 rfl (fun a k z _ => by rw [uR_RR, if_neg (by omega)])
  have H5 : gz_La (uI (uR (uI (uI (uR h 17 0 (some (12 + t))) 17 1 (nI n)) 17 2 (0 : Int32)) 17 3 (some dr)) dr 2 (0 : Int32)) := H4.of rfl rfl
  have Hu : gz_La u := by rw [← hu]; exact H5.of rfl rfl
  have S4 := H4.fsh (fa := dr) (by omega)
  have S5 := H5.fsh (fa := dr) (by omega)
  have r0 : u.2.2.2 17 0 = some (12 + t) := by
    rw [← hu]
    show (uR (uI (uI (uR h 17 0 (some (12 + t))) 17 1 (nI n)) 17 2 (0 : Int32)) 17 3 (some dr)).2.2.2 17 0 = _
    rw [uR_RR, if_neg (by omega)]
    show (uR h 17 0 (some (12 + t))).2.2.2 17 0 = _
    rw [uR_RR, if_pos ⟨rfl, rfl⟩]
  have r3 : (uR (uI (uI (uR h 17 0 (some (12 + t))) 17 1 (nI n)) 17 2 (0 : Int32)) 17 3 (some dr)).2.2.2 17 3 = some dr := by rw [uR_RR, if_pos ⟨rfl, rfl⟩]
  have Xu : XR h u t dr n c 0 := by
    refine ⟨⟨by rw [← hu]; rfl, by rw [← hu]; rfl, fun a k z => ?_, fun a k z1 z2 => ?_⟩, Hu, r0, by rw [← hu]; exact r3, ?_, ?_, fun k hk => ?_⟩
    · rw [← hu]
      show (uR (uI (uI (uR h 17 0 (some (12 + t))) 17 1 (nI n)) 17 2 (0 : Int32)) 17 3 (some dr)).2.2.2 a k = _
      rw [uR_RR, if_neg (by omega)]
      show (uR h 17 0 (some (12 + t))).2.2.2 a k = _
      rw [uR_RR, if_neg (by omega)]
    · rw [← hu, uI_ne (by omega), uI_ne (by omega), uR_I, uI_ne (by omega), uI_ne (by omega), uR_I]
    · rw [← hu, uI_ne (by omega), uI_ne (by omega), uR_I, uI_ne (by omega), uI_at]
    · rw [← hu, uI_ne (by omega), uI_ne (by omega), uR_I, uI_at]; rfl
    · rw [← hu, uI_ne (by omega), uI_ne (by omega), uR_I, uI_ne (by omega), uI_ne (by omega), uR_I]; exact hc k hk
  have xu : xv u dr (TT [] []) (DD []) := ⟨by rw [← hu, uI_ne (by omega), uI_at]; rfl, by rw [← hu, uI_at]; rfl, fun k hk => absurd hk (by show ¬ k < 0; omega), fun i hi => absurd hi (by show ¬ i < 0; omega)⟩
  obtain ⟨q1, e1, X1, s1⟩ := x_skipB Xu ht hn (by omega)
  rw [Nat.sub_zero] at X1
  have p1 := sk_le (c := c) (n := n) n 0 (by omega)
  obtain ⟨q2, e2, X2, x2, p2, l2, b2⟩ := x_vill X1 ht hn hd p1 (xv_sp hd (by show 0 ≤ 6; omega) xu s1)
  have Hq1 := X1.2.1
  have Hq2 := X2.2.1
  have start : fX5_readFlock 17 (12 + t) (nI n) dr h = if nI (if (viN c n (skN c n n 0)).1 = true then 1 else 0) = 0 then some (nI (viN c n (skN c n n 0)).2.1, q2) else gz_ck (gz_sh q2 17 5 4) (gz_b2 (fX5_skipBlanks 17 q2) fun _ h_24 => fX5_readFlock_59 gz_fu 17 (0 : Int32) h_24) := by
    unfold fX5_readFlock fX5_readFlock_0
    rw [ck_t (sh_17 H), lt_d, ck_t (sh_17 H1), lt_d, ck_t (sh_17 H2), lt_d, ck_t (sh_17 H3), lt_d, ck_t (sh_17 H4), r3, br_s, ck_t (sh_t S4.1), lt_d, ck_t (sh_17 H5)]
    show (gz_br ((uR (uI (uI (uR h 17 0 (some (12 + t))) 17 1 (nI n)) 17 2 (0 : Int32)) 17 3 (some dr)).2.2.2 17 3) _) = _
    rw [r3, br_s, ck_t (sh_t S5.1), lt_d, hu, ck_t (sh_17 Hu), e1, b2_s, ck_t (sh_17 Hq1), e2, b2_s, ck_t (sh_17 Hq2), X2.2.2.2.2.2.1, ck_t (sh_17 Hq2)]
  rw [start]
  cases ev : (viN c n (skN c n n 0)).1 with
  | false =>
    have er : rdN c n = (false, (viN c n (skN c n n 0)).2.1, (viN c n (skN c n n 0)).2.2, []) := by unfold rdN; rw [if_neg (by rw [ev]; decide)]
    rw [er]
    exact ⟨q2, rfl, X2.1, Hq2, fun z => ff_no z⟩
  | true =>
    obtain ⟨q3, e3, X3, s3⟩ := x_skipB X2 ht hn p2
    obtain ⟨q4, e4, X4, f4⟩ := x_rf59 ht hn hd l2 6 _ [] q3 X3 (sk_le _ _ p2) rfl (xv_sp hd (by show 0 ≤ 6; omega) x2 s3) (fun g hg => absurd hg (by simp)) gz_fu (by show 6 < 100000; omega)
    have er : rdN c n = ((flN c n (viN c n (skN c n n 0)).2.2.length 6 (skN c n (n - (viN c n (skN c n n 0)).2.1) (viN c n (skN c n n 0)).2.1) []).1, (flN c n (viN c n (skN c n n 0)).2.2.length 6 (skN c n (n - (viN c n (skN c n n 0)).2.1) (viN c n (skN c n n 0)).2.1) []).2.1, (viN c n (skN c n n 0)).2.2, (flN c n (viN c n (skN c n n 0)).2.2.length 6 (skN c n (n - (viN c n (skN c n n 0)).2.1) (viN c n (skN c n n 0)).2.1) []).2.2) := by unfold rdN; rw [if_pos ev]
    rw [er]
    refine ⟨q4, ?_, X4.1, X4.2.1, fun z => ?_⟩
    · rw [if_pos rfl, if_neg (by decide), ck_t (sh_17 Hq2), e3, b2_s]
      exact e4
    · obtain ⟨g1, g2, g3, g4⟩ := f4 z
      refine ⟨g1, ⟨?_, l2, b2⟩, g3, g4, g2⟩
      have : ∀ k p L, (vlN c n k p L).1 = true → 0 < (vlN c n k p L).2.2.length := by
        intro k
        induction k with
        | zero => intro p L u; exact of_decide_eq_true u
        | succ k ih =>
          intro p L u
          rw [vlN] at u ⊢
          cases e : fgN c n p with
          | none => rw [e] at u; exact of_decide_eq_true u
          | some d =>
            rw [e] at u
            by_cases y : 6 ≤ d ∨ 8 ≤ L.length
            · have u : (if 6 ≤ d ∨ 8 ≤ L.length then (false, p, L) else vlN c n k (p + 1) (L ++ [d])).1 = true := u
              rw [if_pos y] at u; exact ff_no u
            · have u : (if 6 ≤ d ∨ 8 ≤ L.length then (false, p, L) else vlN c n k (p + 1) (L ++ [d])).1 = true := u
              rw [if_neg y] at u
              show 0 < (if 6 ≤ d ∨ 8 ≤ L.length then (false, p, L) else vlN c n k (p + 1) (L ++ [d])).2.2.length
              rw [if_neg y]; exact ih _ _ u
      show 0 < (viN c n (skN c n n 0)).2.2.length
      have ev2 := ev
      unfold viN at ev2 ⊢
      by_cases y : skN c n n 0 < n ∧ c (skN c n n 0) = 118
      · rw [if_pos y] at ev2 ⊢; exact this _ _ _ ev2
      · rw [if_neg y] at ev2; exact ff_no ev2
end
end
