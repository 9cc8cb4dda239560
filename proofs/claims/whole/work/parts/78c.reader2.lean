/-! PURE: the class's reader: geese, a whole text -/
def viN (c : Nat → Int32) (n p : Nat) : Bool × Nat × List Nat := if p < n ∧ c p = 118 then vlN c n (n - (p + 1)) (p + 1) [] else (false, p, [])
/-- a goose that a text may hold -/
def gkN (F : Nat) (g : gz_Gs) : Prop := g.1 ≤ 5 ∧ (1 ≤ g.2.1 ∧ g.2.1 ≤ 8) ∧ g.2.2.1 ≤ 9 ∧ g.2.2.2.length ≤ g.2.1 ∧ g.2.2.2.Nodup ∧ ∀ f ∈ g.2.2.2, f < F
def rdN (c : Nat → Int32) (n : Nat) : Bool × Nat × List Nat × List gz_Gs :=
  if (viN c n (skN c n n 0)).1 = true then ((flN c n (viN c n (skN c n n 0)).2.2.length 6 (skN c n (n - (viN c n (skN c n n 0)).2.1) (viN c n (skN c n n 0)).2.1) []).1, (flN c n (viN c n (skN c n n 0)).2.2.length 6 (skN c n (n - (viN c n (skN c n n 0)).2.1) (viN c n (skN c n n 0)).2.1) []).2.1, (viN c n (skN c n n 0)).2.2, (flN c n (viN c n (skN c n n 0)).2.2.length 6 (skN c n (n - (viN c n (skN c n n 0)).2.1) (viN c n (skN c n n 0)).2.1) []).2.2) else (false, (viN c n (skN c n n 0)).2.1, (viN c n (skN c n n 0)).2.2, [])
def fgf (q q' : gz_H) (g : Nat) : Prop := q'.1 = q.1 ∧ q'.2.2 = q.2.2 ∧ (∀ a k, a ≠ 17 → a ≠ g → a ≠ g + 1 → q'.2.1 a k = q.2.1 a k) ∧ ∀ k, k ≠ 1 → q'.2.1 g k = q.2.1 g k
theorem fgf.rf {q : gz_H} {g : Nat} : fgf q q g := ⟨rfl, rfl, fun _ _ _ _ _ => rfl, fun _ _ => rfl⟩
theorem fgf.tr {q q1 q2 : gz_H} {g : Nat} (a : fgf q q1 g) (b : fgf q1 q2 g) : fgf q q2 g := ⟨b.1.trans a.1, b.2.1.trans a.2.1, fun x k e1 e2 e3 => (b.2.2.1 x k e1 e2 e3).trans (a.2.2.1 x k e1 e2 e3), fun k e => (b.2.2.2 k e).trans (a.2.2.2 k e)⟩
section
variable {h q q' : gz_H} {t dr n p : Nat} {c : Nat → Int32}
theorem x_vill (X : XR h q t dr n c p) (ht : t < 4) (hn : n ≤ 80) (hd : dr = 43 ∨ dr = 58) (hp : p ≤ n) (x : xv q dr (TT [] []) (DD [])) : ∃ q', fX5_readVillage 17 q = some (nI (if (viN c n p).1 = true then 1 else 0), q') ∧ XR h q' t dr n c (viN c n p).2.1 ∧ xv q' dr (TT (viN c n p).2.2 []) (DD []) ∧ (viN c n p).2.1 ≤ n ∧ (viN c n p).2.2.length ≤ 8 ∧ ∀ d ∈ (viN c n p).2.2, d ≤ 5 := by
  have X0 := X
  obtain ⟨x0, x5, x6, x7, x8, x9, x10⟩ := X
  unfold fX5_readVillage fX5_readVillage_0
  rw [ck_t (sh_17 x5), x8, x9]
  by_cases z : p < n
  · rw [if_neg (nI_ge z (by omega)), x6, br_s, ck_t (inb_nI (sh_x x5 ht) (by omega) (by decide)), nI_clamp (by omega), x10 p z]
    by_cases y : c p = 118
    · have ev : viN c n p = vlN c n (n - (p + 1)) (p + 1) [] := if_pos ⟨z, y⟩
      rw [ev, if_pos y, nI_1, lt_d]
      exact x_vill37 ht hn hd (n - (p + 1)) (p + 1) [] _ (X0.pos (p + 1) ht) (by omega) (Nat.le_refl _) (by simp) (fun d hd => absurd hd (by simp)) (xv_sp hd (by show 0 ≤ 6; omega) x sp_p) gz_fu (by show n - (p + 1) < 100000; omega)
    · have ev : viN c n p = (false, p, []) := if_neg (fun u => y u.2)
      rw [ev, if_neg y]
      exact ⟨q, rfl, X0, x, hp, by simp, fun d hd => absurd hd (by simp)⟩
  · have ev : viN c n p = (false, p, []) := if_neg (fun u => z u.1)
    rw [ev, if_pos (nI_le (by omega) (by omega))]
    exact ⟨q, rfl, X0, x, hp, by simp, fun d hd => absurd hd (by simp)⟩
theorem x_gs (ht : t < 4) (hn : n ≤ 80) (hd : dr = 43 ∨ dr = 58) {F mo i : Nat} (hF : F ≤ 8) (h1 : 1 ≤ mo) (hm : mo ≤ 8) (hi : i < 6) : ∀ (k p : Nat) (l : List Nat) (q : gz_H), XR h q t dr n c p → p ≤ n → n - p ≤ k → gv q (dr + 3 + 2 * i) l → q.2.1 (dr + 3 + 2 * i) 3 = nI mo → q.2.1 dr 2 = nI F → (∀ f ∈ l, f < F) → l.Nodup → l.length ≤ mo → ∀ m, k < m → ∃ q', fX5_readGoose_111 m 17 (dr + 3 + 2 * i) q = (if (gsN c n F mo k p l).1 = true then fX5_readGoose_190 17 q' else some (0, q')) ∧ XR h q' t dr n c (gsN c n F mo k p l).2.1 ∧ gv q' (dr + 3 + 2 * i) (gsN c n F mo k p l).2.2 ∧ fgf q q' (dr + 3 + 2 * i) ∧ (gsN c n F mo k p l).2.1 ≤ n ∧ (∀ f ∈ (gsN c n F mo k p l).2.2, f < F) ∧ (gsN c n F mo k p l).2.2.Nodup ∧ (gsN c n F mo k p l).2.2.length ≤ mo := by
  intro k
  induction k with
  | zero =>
    intro p l q X hp hk G g3 d2 lb nd hl m hm'
    obtain ⟨m, rfl⟩ : ∃ j, m = j + 1 := ⟨m - 1, by omega⟩
    refine ⟨q, ?_, X, G, fgf.rf, hp, lb, nd, hl⟩
    obtain ⟨x0, x5, x6, x7, x8, x9, x10⟩ := X
    rw [fX5_readGoose_111, ck_t (sh_17 x5), x8, x9, if_pos (nI_le (by omega) (by omega))]
    rfl
  | succ k ih =>
    intro p l q X hp hk G g3 d2 lb nd hl m hm'
    obtain ⟨m, rfl⟩ : ∃ j, m = j + 1 := ⟨m - 1, by omega⟩
    have fg := x_fig X ht hn (by omega)
    have X0 := X
    obtain ⟨x0, x5, x6, x7, x8, x9, x10⟩ := X
    have S := x5.fsh (fa := dr) (by omega)
    have sg := (S.2.2.2.2.2 i hi).2
    have lb8 : ∀ x ∈ l, x < 8 := fun x hx => Nat.lt_of_lt_of_le (lb x hx) hF
    rw [fX5_readGoose_111, ck_t (sh_17 x5), x8, x9, gsN]
    cases e : fgN c n p with
    | none =>
      refine ⟨q, ?_, X0, G, fgf.rf, hp, lb, nd, hl⟩
      show _ = (if (true : Bool) = true then fX5_readGoose_190 17 q else some (0, q))
      rw [if_pos rfl]
      by_cases z : p < n
      · rw [if_neg (nI_ge z (by omega)), fg, e, b2_s, if_pos enc_n]
      · rw [if_pos (nI_le (by omega) (by omega))]
    | some f =>
      obtain ⟨z, f9, ec⟩ := fg_some e
      have hs : ¬ enc (some f) = (-9 : Int32) := enc_ne (by omega)
      rw [if_neg (nI_ge z (by omega)), fg, e, b2_s, if_neg hs, ck_t (sh_17 x5), fg, e, b2_s, ck_t (sh_17 x5), x7, br_s, ck_t (sh_t S.1), show enc (some f) = nI f from rfl]
      have bad : (F ≤ f ∨ f ∈ l ∨ mo ≤ l.length) → (gz_b2 (fX1_hasFact dr (nI f) q) fun y_12 h_11 => if y_12 = 0 then some ((0 : Int32), h_11) else gz_ck (gz_sh h_11 (dr + 3 + 2 * i) 2 6) (gz_b2 (fX2_hasFact (dr + 3 + 2 * i) (nI f) h_11) fun y_16 h_15 => if y_16 = 0 then gz_ck (gz_sh h_15 (dr + 3 + 2 * i) 2 6) (gz_b2 (fX2_isFilled (dr + 3 + 2 * i) h_15) fun y_20 h_19 => if y_20 = 0 then gz_ck (gz_sh h_19 (dr + 3 + 2 * i) 2 6) (gz_b2 (fX2_take (dr + 3 + 2 * i) (nI f) h_19) fun y_24 h_23 => gz_ck (gz_sh h_23 17 5 4) (gz_lt (uI h_23 17 2 ((h_23.2.1 17 2) + (1 : Int32))) fun h_27 => fX5_readGoose_111 m 17 (dr + 3 + 2 * i) h_27)) else some ((0 : Int32), h_19)) else some ((0 : Int32), h_15))) = some (0, q) := by
        intro y
        unfold fX1_hasFact fX1_hasFact_0
        rw [if_neg (nI_pos (by omega)), ck_t (sh_t S.1), d2]
        by_cases y1 : F ≤ f
        · rw [if_pos (nI_le y1 (by omega)), b2_s, if_pos rfl]
        · rw [if_neg (nI_ge (by omega) (by omega)), b2_s, if_neg (by decide), ck_t (sh_t sg.1), x_hasFact G lb8 (by omega), b2_s]
          by_cases y2 : f ∈ l
          · rw [if_pos y2, if_neg (by decide)]
          · have y3 : mo ≤ l.length := (y.resolve_left y1).resolve_left y2
            rw [if_neg y2, if_pos rfl, ck_t (sh_t sg.1), x_isFilled G g3 hm, if_pos y3, b2_s, if_neg (by decide)]
      by_cases y : F ≤ f ∨ f ∈ l ∨ mo ≤ l.length
      · show ∃ q', _ = (if (if F ≤ f ∨ f ∈ l ∨ mo ≤ l.length then (false, p, l) else gsN c n F mo k (p + 1) (l ++ [f])).1 = true then fX5_readGoose_190 17 q' else some (0, q')) ∧ XR h q' t dr n c (if F ≤ f ∨ f ∈ l ∨ mo ≤ l.length then (false, p, l) else gsN c n F mo k (p + 1) (l ++ [f])).2.1 ∧ gv q' (dr + 3 + 2 * i) (if F ≤ f ∨ f ∈ l ∨ mo ≤ l.length then (false, p, l) else gsN c n F mo k (p + 1) (l ++ [f])).2.2 ∧ fgf q q' (dr + 3 + 2 * i) ∧ (if F ≤ f ∨ f ∈ l ∨ mo ≤ l.length then (false, p, l) else gsN c n F mo k (p + 1) (l ++ [f])).2.1 ≤ n ∧ (∀ f' ∈ (if F ≤ f ∨ f ∈ l ∨ mo ≤ l.length then (false, p, l) else gsN c n F mo k (p + 1) (l ++ [f])).2.2, f' < F) ∧ (if F ≤ f ∨ f ∈ l ∨ mo ≤ l.length then (false, p, l) else gsN c n F mo k (p + 1) (l ++ [f])).2.2.Nodup ∧ (if F ≤ f ∨ f ∈ l ∨ mo ≤ l.length then (false, p, l) else gsN c n F mo k (p + 1) (l ++ [f])).2.2.length ≤ mo
        rw [if_pos y]
        exact ⟨q, (bad y).trans rfl, X0, G, fgf.rf, hp, lb, nd, hl⟩
      · have y1 : ¬ F ≤ f := fun u => y (Or.inl u)
        have y2 : ¬ f ∈ l := fun u => y (Or.inr (Or.inl u))
        have y3 : ¬ mo ≤ l.length := fun u => y (Or.inr (Or.inr u))
        show ∃ q', _ = (if (if F ≤ f ∨ f ∈ l ∨ mo ≤ l.length then (false, p, l) else gsN c n F mo k (p + 1) (l ++ [f])).1 = true then fX5_readGoose_190 17 q' else some (0, q')) ∧ XR h q' t dr n c (if F ≤ f ∨ f ∈ l ∨ mo ≤ l.length then (false, p, l) else gsN c n F mo k (p + 1) (l ++ [f])).2.1 ∧ gv q' (dr + 3 + 2 * i) (if F ≤ f ∨ f ∈ l ∨ mo ≤ l.length then (false, p, l) else gsN c n F mo k (p + 1) (l ++ [f])).2.2 ∧ fgf q q' (dr + 3 + 2 * i) ∧ (if F ≤ f ∨ f ∈ l ∨ mo ≤ l.length then (false, p, l) else gsN c n F mo k (p + 1) (l ++ [f])).2.1 ≤ n ∧ (∀ f' ∈ (if F ≤ f ∨ f ∈ l ∨ mo ≤ l.length then (false, p, l) else gsN c n F mo k (p + 1) (l ++ [f])).2.2, f' < F) ∧ (if F ≤ f ∨ f ∈ l ∨ mo ≤ l.length then (false, p, l) else gsN c n F mo k (p + 1) (l ++ [f])).2.2.Nodup ∧ (if F ≤ f ∨ f ∈ l ∨ mo ≤ l.length then (false, p, l) else gsN c n F mo k (p + 1) (l ++ [f])).2.2.length ≤ mo
        rw [if_neg y]
        obtain ⟨q1, e1, G1, r1⟩ := x_take G lb8 g3 h1 hm hl (f := f) (by omega)
        rw [tk_add y2 y3] at G1
        have X1 : XR h q1 t dr n c p := X0.blk ht hd r1.1 r1.2.1 (fun a k u => r1.2.2.1 a k (by omega) (by omega))
        have H1 := X1.2.1
        have X2 := X1.pos (p + 1) ht
        have G2 : gv (uI q1 17 2 (nI (p + 1))) (dr + 3 + 2 * i) (l ++ [f]) := G1.cg rfl rfl (fun k => ⟨uI_ne (by omega), uI_ne (by omega)⟩)
        obtain ⟨q', e2, a1, a2, a3, a4⟩ := ih (p + 1) (l ++ [f]) _ X2 (by omega) (by omega) G2 (by rw [uI_ne (by omega), r1.2.2.2 3 (by omega)]; exact g3) (by rw [uI_ne (by omega), r1.2.2.1 dr 2 (by omega) (by omega)]; exact d2) (fun x hx => (List.mem_append.mp hx).elim (lb x) (fun u => by rw [List.mem_singleton.mp u]; omega)) (nodup_add nd y2) (by rw [List.length_append]; show l.length + 1 ≤ mo; omega) m (by omega)
        have ff : fgf q q' (dr + 3 + 2 * i) := fgf.tr (q1 := uI q1 17 2 (nI (p + 1))) ⟨r1.1, r1.2.1, fun a k u1 u2 u3 => by rw [uI_ne (by omega)]; exact r1.2.2.1 a k u2 u3, fun k u => by rw [uI_ne (by omega)]; exact r1.2.2.2 k u⟩ a3
        refine ⟨q', ?_, a1, a2, ff, a4⟩
        rw [← e2]
        unfold fX1_hasFact fX1_hasFact_0
        rw [if_neg (nI_pos (by omega)), ck_t (sh_t S.1), d2, if_neg (nI_ge (by omega) (by omega)), b2_s, if_neg (by decide), ck_t (sh_t sg.1), x_hasFact G lb8 (by omega), b2_s, if_neg y2, if_pos rfl, ck_t (sh_t sg.1), x_isFilled G g3 hm, if_neg y3, b2_s, if_pos rfl, ck_t (sh_t sg.1), e1, b2_s, ck_t (sh_17 H1), X1.2.2.2.2.2.1, nI_1, lt_d]
theorem x_letter (X : XR h q t dr n c p) (ht : t < 4) (hn : n ≤ 80) (hp : p < n) : fX5_letter 17 q = some (enc (ltN (c p)), q) := by
  obtain ⟨x0, x5, x6, x7, x8, x9, x10⟩ := X
  have st : ∀ m j, j < 6 → fX5_letter_2 (m + 1) 17 (nI j) q = if c p = gz_lt6 j then some (nI j, q) else fX5_letter_2 m 17 (nI (j + 1)) q := by
    intro m j hj
    have i6 : gz_in6 (nI j) = true := by
      unfold gz_in6
      rw [nI_clamp (by omega), decide_eq_false (nI_pos (by omega)), decide_eq_true hj]; rfl
    rw [fX5_letter_2, if_neg (show ¬ (6 : Int32) ≤ nI j from nI_ge hj (by decide)), ck_t (sh_17 x5), x8, x9, if_neg (nI_ge hp (by omega)), x6, br_s, ck_t (inb_nI (sh_x x5 ht) (by omega) (by decide)), nI_clamp (by omega), nI_clamp (by omega), x10 p hp, ck_t i6, nI_1]
  unfold fX5_letter fX5_letter_0
  show fX5_letter_2 (99993 + 1 + 1 + 1 + 1 + 1 + 1 + 1) 17 (nI 0) q = _
  have e6 : fX5_letter_2 (99993 + 1) 17 (nI (5 + 1)) q = some (-9, q) := by rw [fX5_letter_2, if_pos (show (6 : Int32) ≤ nI (5 + 1) by decide)]
  rw [st _ 0 (by omega), st _ 1 (by omega), st _ 2 (by omega), st _ 3 (by omega), st _ 4 (by omega), st _ 5 (by omega), e6, show gz_lt6 0 = 103 from rfl, show gz_lt6 (0 + 1) = 97 from rfl, show gz_lt6 (1 + 1) = 116 from rfl, show gz_lt6 (2 + 1) = 104 from rfl, show gz_lt6 (3 + 1) = 108 from rfl, show gz_lt6 (4 + 1) = 115 from rfl]
  unfold ltN
  by_cases a0 : c p = 103
  · rw [if_pos a0, if_pos a0]; rfl
  rw [if_neg a0, if_neg a0]
  by_cases a1 : c p = 97
  · rw [if_pos a1, if_pos a1]; rfl
  rw [if_neg a1, if_neg a1]
  by_cases a2 : c p = 116
  · rw [if_pos a2, if_pos a2]; rfl
  rw [if_neg a2, if_neg a2]
  by_cases a3 : c p = 104
  · rw [if_pos a3, if_pos a3]; rfl
  rw [if_neg a3, if_neg a3]
  by_cases a4 : c p = 108
  · rw [if_pos a4, if_pos a4]; rfl
  rw [if_neg a4, if_neg a4]
  by_cases a5 : c p = 115
  · rw [if_pos a5, if_pos a5]; rfl
  rw [if_neg a5, if_neg a5]
  rfl
theorem lt_5 {x : Int32} {k : Nat} (e : ltN x = some k) : k ≤ 5 := by
  unfold ltN at e
  by_cases a0 : x = 103
  · rw [if_pos a0] at e; have := Option.some.inj e; omega
  rw [if_neg a0] at e
  by_cases a1 : x = 97
  · rw [if_pos a1] at e; have := Option.some.inj e; omega
  rw [if_neg a1] at e
  by_cases a2 : x = 116
  · rw [if_pos a2] at e; have := Option.some.inj e; omega
  rw [if_neg a2] at e
  by_cases a3 : x = 104
  · rw [if_pos a3] at e; have := Option.some.inj e; omega
  rw [if_neg a3] at e
  by_cases a4 : x = 108
  · rw [if_pos a4] at e; have := Option.some.inj e; omega
  rw [if_neg a4] at e
  by_cases a5 : x = 115
  · rw [if_pos a5] at e; have := Option.some.inj e; omega
  rw [if_neg a5] at e
  exact absurd e (by simp)
end
