/-! PURE: what a text says, and the class's reader -/
abbrev gz_Gs : Type := Nat × Nat × Nat × List Nat
def g0 : gz_Gs := (0, 0, 0, [])
def TT (L : List Nat) (G : List gz_Gs) : gz_T := (L.length, G.length, fun k => L.getD k 0, fun i => (G.getD i g0).1, fun i => (G.getD i g0).2.1, fun i => (G.getD i g0).2.2.1)
def DD (G : List gz_Gs) : gz_D := fun i => ((G.getD i g0).2.2.2, false)
def fgN (c : Nat → Int32) (n p : Nat) : Option Nat := if p < n ∧ ¬ c p < 48 ∧ ¬ 57 < c p then some ((c p).toNatClampNeg - 48) else none
def skN (c : Nat → Int32) (n : Nat) : Nat → Nat → Nat
  | 0, p => p
  | k + 1, p => if p < n ∧ c p = 32 then skN c n k (p + 1) else p
def vlN (c : Nat → Int32) (n : Nat) : Nat → Nat → List Nat → Bool × Nat × List Nat
  | 0, p, L => (decide (0 < L.length), p, L)
  | k + 1, p, L => match fgN c n p with
    | none => (decide (0 < L.length), p, L)
    | some d => if 6 ≤ d ∨ 8 ≤ L.length then (false, p, L) else vlN c n k (p + 1) (L ++ [d])
def gsN (c : Nat → Int32) (n F mo : Nat) : Nat → Nat → List Nat → Bool × Nat × List Nat
  | 0, p, l => (true, p, l)
  | k + 1, p, l => match fgN c n p with
    | none => (true, p, l)
    | some f => if F ≤ f ∨ f ∈ l ∨ mo ≤ l.length then (false, p, l) else gsN c n F mo k (p + 1) (l ++ [f])
def ltN (x : Int32) : Option Nat := if x = 103 then some 0 else if x = 97 then some 1 else if x = 116 then some 2 else if x = 104 then some 3 else if x = 108 then some 4 else if x = 115 then some 5 else none
def goN (c : Nat → Int32) (n F p : Nat) : Bool × Nat × gz_Gs := match ltN (c p) with
  | none => (false, p, g0)
  | some kd => match fgN c n (p + 1) with
    | none => (false, p + 1, g0)
    | some mo => if mo = 0 ∨ 9 ≤ mo then (false, p + 1, g0) else match fgN c n (p + 2) with
      | none => (false, p + 2, g0)
      | some rk => ((gsN c n F mo (n - (p + 3)) (p + 3) []).1, (gsN c n F mo (n - (p + 3)) (p + 3) []).2.1, (kd, mo, rk, (gsN c n F mo (n - (p + 3)) (p + 3) []).2.2))
/-- the geese: none, with the place, or all -/
def flN (c : Nat → Int32) (n F : Nat) : Nat → Nat → List gz_Gs → Bool × Nat × List gz_Gs
  | 0, p, G => (decide (¬ p < n), p, G)
  | k + 1, p, G => if p < n then (if (goN c n F p).1 = true then flN c n F k (skN c n (n - (goN c n F p).2.1) (goN c n F p).2.1) (G ++ [(goN c n F p).2.2]) else (false, (goN c n F p).2.1, G)) else (decide (0 < G.length), p, G)
theorem fg_some {c : Nat → Int32} {n p d : Nat} (e : fgN c n p = some d) : p < n ∧ d ≤ 9 ∧ c p = nI (48 + d) := by
  unfold fgN at e
  by_cases q : p < n ∧ ¬ c p < 48 ∧ ¬ 57 < c p
  · rw [if_pos q] at e
    have e := Option.some.inj e
    obtain ⟨q1, q2, q3⟩ := q
    have q2 := Int32.not_lt.mp q2
    have q3 := Int32.not_lt.mp q3
    rw [Int32.le_iff_toInt_le] at q2 q3
    have q2 : (48 : Int) ≤ (c p).toInt := q2
    have q3 : (c p).toInt ≤ 57 := q3
    obtain ⟨j, hj, ej⟩ := n_of0 (x := c p) (m := 57) (by omega) (by omega) (by decide)
    rw [ej, nI_toInt (by omega)] at q2
    rw [ej, nI_clamp (by omega)] at e
    exact ⟨q1, by omega, by rw [ej]; exact congrArg nI (by omega)⟩
  · rw [if_neg q] at e
    exact absurd e (by simp)
theorem fg_none {c : Nat → Int32} {n p : Nat} (e : fgN c n p = none) : ¬ (p < n ∧ ¬ c p < 48 ∧ ¬ 57 < c p) := by
  unfold fgN at e
  intro q
  rw [if_pos q] at e
  exact absurd e (by simp)
theorem sk_le {c : Nat → Int32} {n : Nat} : ∀ k p, p ≤ n → skN c n k p ≤ n := by
  intro k
  induction k with
  | zero => intro p h; exact h
  | succ k ih =>
    intro p h
    rw [skN]
    by_cases q : p < n ∧ c p = 32
    · rw [if_pos q]; exact ih (p + 1) (by omega)
    · rw [if_neg q]; exact h
/-- only the reader's own fields change -/
def sp (h h' : gz_H) : Prop := h'.1 = h.1 ∧ h'.2.2 = h.2.2 ∧ ∀ a k, a ≠ 17 → h'.2.1 a k = h.2.1 a k
theorem sp.rf {h : gz_H} : sp h h := ⟨rfl, rfl, fun _ _ _ => rfl⟩
theorem sp.tr {h h1 h2 : gz_H} (a : sp h h1) (b : sp h1 h2) : sp h h2 := ⟨b.1.trans a.1, b.2.1.trans a.2.1, fun x k e => (b.2.2 x k e).trans (a.2.2 x k e)⟩
theorem sp_p {h : gz_H} {v : Int32} : sp h (uI h 17 2 v) := ⟨rfl, rfl, fun a k e => uI_ne (by omega)⟩
def CF (h q : gz_H) (dr : Nat) : Prop := q.1 = h.1 ∧ q.2.2.1 = h.2.2.1 ∧ (∀ a k, a ≠ 17 → q.2.2.2 a k = h.2.2.2 a k) ∧ ∀ a k, a ≠ 17 → ¬ (dr ≤ a ∧ a ≤ dr + 14) → q.2.1 a k = h.2.1 a k
def XR (h q : gz_H) (t dr n : Nat) (c : Nat → Int32) (p : Nat) : Prop := CF h q dr ∧ gz_La q ∧ q.2.2.2 17 0 = some (12 + t) ∧ q.2.2.2 17 3 = some dr ∧ q.2.1 17 1 = nI n ∧ q.2.1 17 2 = nI p ∧ ∀ k, k < n → q.2.1 (12 + t) k = c k
section
variable {h q q' : gz_H} {t dr n p : Nat} {c : Nat → Int32}
theorem XR.pos (X : XR h q t dr n c p) (p' : Nat) (ht : t < 4) : XR h (uI q 17 2 (nI p')) t dr n c p' := by
  obtain ⟨⟨x1, x2, x3, x4⟩, x5, x6, x7, x8, x9, x10⟩ := X
  exact ⟨⟨x1, x2, x3, fun a k e f => by rw [uI_ne (by omega)]; exact x4 a k e f⟩, x5.of rfl rfl, x6, x7, by rw [uI_ne (by omega)]; exact x8, uI_at, fun k hk => by rw [uI_ne (by omega)]; exact x10 k hk⟩
theorem XR.blk (X : XR h q t dr n c p) (ht : t < 4) (hd : dr = 43 ∨ dr = 58) (e1 : q'.1 = q.1) (e2 : q'.2.2 = q.2.2) (e3 : ∀ a k, ¬ (dr ≤ a ∧ a ≤ dr + 14) → q'.2.1 a k = q.2.1 a k) : XR h q' t dr n c p := by
  obtain ⟨⟨x1, x2, x3, x4⟩, x5, x6, x7, x8, x9, x10⟩ := X
  have e22 : q'.2.2.2 = q.2.2.2 := congrArg Prod.snd e2
  exact ⟨⟨e1.trans x1, (congrArg Prod.fst e2).trans x2, fun a k e => by rw [e22]; exact x3 a k e, fun a k e f => by rw [e3 a k f]; exact x4 a k e f⟩, x5.of e1 e22, by rw [e22]; exact x6, by rw [e22]; exact x7, by rw [e3 _ _ (by omega)]; exact x8, by rw [e3 _ _ (by omega)]; exact x9, fun k hk => by rw [e3 _ _ (by omega)]; exact x10 k hk⟩
theorem sh_x (H : gz_La h) {t : Nat} (ht : t < 4) : h.1[12 + t]? = some (10, 80) := by
  match t, ht with
  | 0, _ => exact H.sh rfl
  | 1, _ => exact H.sh rfl
  | 2, _ => exact H.sh rfl
  | 3, _ => exact H.sh rfl
theorem x_fig (X : XR h q t dr n c p) (ht : t < 4) (hn : n ≤ 80) (hp : p ≤ 90) : fX5_figure 17 q = some (enc (fgN c n p), q) := by
  obtain ⟨x0, x5, x6, x7, x8, x9, x10⟩ := X
  unfold fX5_figure fX5_figure_0
  rw [ck_t (sh_17 x5), x8, x9]
  by_cases z : p < n
  · rw [if_neg (nI_ge z (by omega)), x6, br_s, ck_t (inb_nI (sh_x x5 ht) (by omega) (by decide)), nI_clamp (by omega), x10 p z]
    cases e : fgN c n p with
    | none =>
      have q := fg_none e
      by_cases a : c p < 48
      · rw [if_pos a]; rfl
      · by_cases b : 57 < c p
        · rw [if_neg a, if_pos b]; rfl
        · exact absurd ⟨z, a, b⟩ q
    | some d =>
      obtain ⟨q1, q2, q3⟩ := fg_some e
      rw [q3, if_neg (show ¬ nI (48 + d) < (48 : Int32) from nI_nlt (b := 48) (by omega) (by omega)), if_neg (show ¬ (57 : Int32) < nI (48 + d) from nI_nlt (a := 57) (by omega) (by omega)), show (48 : Int32) = nI 48 from rfl, pk_sub (by omega)]
      show some (nI (48 + d - 48), q) = some (nI d, q)
      rw [show 48 + d - 48 = d by omega]
  · rw [if_pos (nI_le (by omega) (by omega))]
    have : fgN c n p = none := if_neg (fun y => z y.1)
    rw [this]
    rfl
theorem x_skip (ht : t < 4) (hn : n ≤ 80) : ∀ (k p : Nat) (q : gz_H), XR h q t dr n c p → p ≤ n → n - p ≤ k → ∀ m, k < m → ∃ q', fX5_skipBlanks_0 m 17 q = some ((), q') ∧ XR h q' t dr n c (skN c n k p) ∧ sp q q' := by
  intro k
  induction k with
  | zero =>
    intro p q X hp hk m hm
    obtain ⟨m, rfl⟩ : ∃ j, m = j + 1 := ⟨m - 1, by omega⟩
    refine ⟨q, ?_, X, sp.rf⟩
    obtain ⟨x0, x5, x6, x7, x8, x9, x10⟩ := X
    rw [fX5_skipBlanks_0, ck_t (sh_17 x5), x8, x9, if_pos (nI_le (by omega) (by omega))]
  | succ k ih =>
    intro p q X hp hk m hm
    obtain ⟨m, rfl⟩ : ∃ j, m = j + 1 := ⟨m - 1, by omega⟩
    have X0 := X
    obtain ⟨x0, x5, x6, x7, x8, x9, x10⟩ := X
    rw [fX5_skipBlanks_0, ck_t (sh_17 x5), x8, x9, skN]
    by_cases z : p < n
    · rw [if_neg (nI_ge z (by omega)), x6, br_s, ck_t (inb_nI (sh_x x5 ht) (by omega) (by decide)), nI_clamp (by omega), x10 p z]
      by_cases y : c p = 32
      · rw [if_pos y, if_pos ⟨z, y⟩, nI_1, lt_d]
        obtain ⟨q', e1, e2, e3⟩ := ih (p + 1) _ (X0.pos (p + 1) ht) (by omega) (by omega) m (by omega)
        exact ⟨q', e1, e2, sp_p.tr e3⟩
      · rw [if_neg y, if_neg (fun u => y u.2)]
        exact ⟨q, rfl, X0, sp.rf⟩
    · rw [if_pos (nI_le (by omega) (by omega)), if_neg (fun u => z u.1)]
      exact ⟨q, rfl, X0, sp.rf⟩
theorem x_skipB (X : XR h q t dr n c p) (ht : t < 4) (hn : n ≤ 80) (hp : p ≤ n) : ∃ q', fX5_skipBlanks 17 q = some ((), q') ∧ XR h q' t dr n c (skN c n (n - p) p) ∧ sp q q' := x_skip ht hn (n - p) p q X hp (Nat.le_refl _) gz_fu (by show n - p < 100000; omega)
theorem xv_sp {T : gz_T} {D : gz_D} {dr : Nat} (hd : dr = 43 ∨ dr = 58) (hG : T.2.1 ≤ 6) (x : xv q dr T D) (s : sp q q') : xv q' dr T D := x.cg hG s.1 (congrArg Prod.snd s.2.1) (fun a k h1 h2 => s.2.2 a k (by omega))
theorem TT_G {L : List Nat} {G : List gz_Gs} : (TT L G).2.1 = G.length := rfl
theorem x_vill37 (ht : t < 4) (hn : n ≤ 80) (hd : dr = 43 ∨ dr = 58) : ∀ (k p : Nat) (L : List Nat) (q : gz_H), XR h q t dr n c p → p ≤ n → n - p ≤ k → L.length ≤ 8 → (∀ d ∈ L, d ≤ 5) → xv q dr (TT L []) (DD []) → ∀ m, k < m → ∃ q', fX5_readVillage_37 m 17 q = some (nI (if (vlN c n k p L).1 = true then 1 else 0), q') ∧ XR h q' t dr n c (vlN c n k p L).2.1 ∧ xv q' dr (TT (vlN c n k p L).2.2 []) (DD []) ∧ (vlN c n k p L).2.1 ≤ n ∧ (vlN c n k p L).2.2.length ≤ 8 ∧ ∀ d ∈ (vlN c n k p L).2.2, d ≤ 5 := by
  have done : ∀ (p : Nat) (L : List Nat) (q : gz_H), XR h q t dr n c p → L.length ≤ 8 → xv q dr (TT L []) (DD []) → fX5_readVillage_119 17 q = some (nI (if (decide (0 < L.length)) = true then 1 else 0), q) := by
    intro p L q X hL x
    obtain ⟨x0, x5, x6, x7, x8, x9, x10⟩ := X
    have S := x5.fsh (fa := dr) (by omega)
    have f2 : q.2.1 dr 2 = nI L.length := x.1
    unfold fX5_readVillage_119
    rw [ck_t (sh_17 x5), x7, br_s, ck_t (sh_t S.1), f2]
    by_cases z : 0 < L.length
    · rw [if_neg (n_le0 z (by omega)), decide_eq_true z]; rfl
    · rw [show L.length = 0 by omega, if_pos (by decide)]; rfl
  intro k
  induction k with
  | zero =>
    intro p L q X hp hk hL hb x m hm
    obtain ⟨m, rfl⟩ : ∃ j, m = j + 1 := ⟨m - 1, by omega⟩
    refine ⟨q, ?_, X, x, hp, hL, hb⟩
    have dn := done p L q X hL x
    obtain ⟨x0, x5, x6, x7, x8, x9, x10⟩ := X
    rw [fX5_readVillage_37, ck_t (sh_17 x5), x8, x9, if_pos (nI_le (by omega) (by omega)), dn]
    rfl
  | succ k ih =>
    intro p L q X hp hk hL hb x m hm
    obtain ⟨m, rfl⟩ : ∃ j, m = j + 1 := ⟨m - 1, by omega⟩
    have dn := done p L q X hL x
    have fg := x_fig X ht hn (by omega)
    have X0 := X
    obtain ⟨x0, x5, x6, x7, x8, x9, x10⟩ := X
    have S := x5.fsh (fa := dr) (by omega)
    rw [fX5_readVillage_37, ck_t (sh_17 x5), x8, x9, vlN]
    cases e : fgN c n p with
    | none =>
      refine ⟨q, ?_, X0, x, hp, hL, hb⟩
      by_cases z : p < n
      · rw [if_neg (nI_ge z (by omega)), fg, e, b2_s, if_pos enc_n, dn]
      · rw [if_pos (nI_le (by omega) (by omega)), dn]
    | some d =>
      obtain ⟨z, d9, ec⟩ := fg_some e
      have f2 : q.2.1 dr 2 = nI L.length := x.1
      have hs : ¬ enc (some d) = (-9 : Int32) := enc_ne (by omega)
      rw [if_neg (nI_ge z (by omega)), fg, e, b2_s, if_neg hs, ck_t (sh_17 x5), fg, e, b2_s, show enc (some d) = nI d from rfl]
      by_cases y : 6 ≤ d ∨ 8 ≤ L.length
      · show ∃ q', _ = some (nI (if (if 6 ≤ d ∨ 8 ≤ L.length then (false, p, L) else vlN c n k (p + 1) (L ++ [d])).1 = true then 1 else 0), q') ∧ XR h q' t dr n c (if 6 ≤ d ∨ 8 ≤ L.length then (false, p, L) else vlN c n k (p + 1) (L ++ [d])).2.1 ∧ xv q' dr (TT (if 6 ≤ d ∨ 8 ≤ L.length then (false, p, L) else vlN c n k (p + 1) (L ++ [d])).2.2 []) (DD []) ∧ (if 6 ≤ d ∨ 8 ≤ L.length then (false, p, L) else vlN c n k (p + 1) (L ++ [d])).2.1 ≤ n ∧ (if 6 ≤ d ∨ 8 ≤ L.length then (false, p, L) else vlN c n k (p + 1) (L ++ [d])).2.2.length ≤ 8 ∧ ∀ x ∈ (if 6 ≤ d ∨ 8 ≤ L.length then (false, p, L) else vlN c n k (p + 1) (L ++ [d])).2.2, x ≤ 5
        rw [if_pos y]
        refine ⟨q, ?_, X0, x, hp, hL, hb⟩
        by_cases w : 6 ≤ d
        · rw [if_pos (show (6 : Int32) ≤ nI d from nI_le (a := 6) w (by omega))]; rfl
        · rw [if_neg (show ¬ (6 : Int32) ≤ nI d from nI_ge (b := 6) (by omega) (by decide)), ck_t (sh_17 x5), x7, br_s, ck_t (sh_t S.1), f2, if_neg (show ¬ nI L.length < (8 : Int32) from nI_nlt (b := 8) (by omega) (by omega))]; rfl
      · have y1 : ¬ 6 ≤ d := fun u => y (Or.inl u)
        have y2 : ¬ 8 ≤ L.length := fun u => y (Or.inr u)
        show ∃ q', _ = some (nI (if (if 6 ≤ d ∨ 8 ≤ L.length then (false, p, L) else vlN c n k (p + 1) (L ++ [d])).1 = true then 1 else 0), q') ∧ XR h q' t dr n c (if 6 ≤ d ∨ 8 ≤ L.length then (false, p, L) else vlN c n k (p + 1) (L ++ [d])).2.1 ∧ xv q' dr (TT (if 6 ≤ d ∨ 8 ≤ L.length then (false, p, L) else vlN c n k (p + 1) (L ++ [d])).2.2 []) (DD []) ∧ (if 6 ≤ d ∨ 8 ≤ L.length then (false, p, L) else vlN c n k (p + 1) (L ++ [d])).2.1 ≤ n ∧ (if 6 ≤ d ∨ 8 ≤ L.length then (false, p, L) else vlN c n k (p + 1) (L ++ [d])).2.2.length ≤ 8 ∧ ∀ x ∈ (if 6 ≤ d ∨ 8 ≤ L.length then (false, p, L) else vlN c n k (p + 1) (L ++ [d])).2.2, x ≤ 5
        rw [if_neg y]
        have X1 : XR h (uI q dr 2 (nI (L.length + 1))) t dr n c p := X0.blk ht hd rfl rfl (fun a k f => uI_ne (by omega))
        have H1 := X1.2.1
        have fg1 := x_fig X1 ht hn (by omega)
        have X2 : XR h (uI (uI q dr 2 (nI (L.length + 1))) (dr + 1) L.length (nI d)) t dr n c p := X1.blk ht hd rfl rfl (fun a k f => uI_ne (by omega))
        have H2 := X2.2.1
        have S1 := H1.fsh (fa := dr) (by omega)
        have X3 := X2.pos (p + 1) ht
        have xx : xv (uI (uI (uI q dr 2 (nI (L.length + 1))) (dr + 1) L.length (nI d)) 17 2 (nI (p + 1))) dr (TT (L ++ [d]) []) (DD []) := by
          refine ⟨?_, ?_, fun j hj => ?_, fun i hi => absurd hi (by show ¬ i < 0; omega)⟩
          · rw [uI_ne (by omega), uI_ne (by omega), uI_at]
            show _ = nI (L ++ [d]).length
            rw [List.length_append]; rfl
          · rw [uI_ne (by omega), uI_ne (by omega), uI_ne (by omega)]; exact x.2.1
          · have hj : j < (L ++ [d]).length := hj
            rw [List.length_append] at hj
            have hj : j < L.length + 1 := hj
            rw [uI_ne (by omega)]
            show _ = nI ((L ++ [d]).getD j 0)
            by_cases u : j = L.length
            · rw [u, uI_at, ld_app]
            · rw [uI_ne (by omega), uI_ne (by omega), ld_lt (by omega)]
              exact x.2.2.1 j (by show j < L.length; omega)
        obtain ⟨q', e1, e2⟩ := ih (p + 1) (L ++ [d]) _ X3 (by omega) (by omega) (by rw [List.length_append]; show L.length + 1 ≤ 8; omega) (fun x hx => (List.mem_append.mp hx).elim (hb x) (fun u => by rw [List.mem_singleton.mp u]; omega)) xx m (by omega)
        refine ⟨q', ?_, e2⟩
        rw [if_neg (show ¬ (6 : Int32) ≤ nI d from nI_ge (b := 6) (by omega) (by decide)), ck_t (sh_17 x5), x7, br_s, ck_t (sh_t S.1), f2, if_pos (show nI L.length < (8 : Int32) from nI_lt (b := 8) (by omega) (by decide)), S.2.2.2.1, br_s, nI_1, lt_d, ck_t (sh_17 H1), fg1, e, b2_s, ck_t (inb_nI S1.2.1 (by omega) (by decide)), nI_clamp (by omega), lt_d, show enc (some d) = nI d from rfl, ck_t (sh_17 H2), X2.2.2.2.2.2.1, nI_1, lt_d]
        exact e1
end
