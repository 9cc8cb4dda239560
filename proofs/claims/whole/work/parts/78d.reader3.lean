/-! PURE: the class's reader: a goose, a flock -/
theorem ff_no {P : Prop} (h : (false : Bool) = true) : P := absurd h (by decide)
theorem gl_lt {G : List gz_Gs} {g : gz_Gs} {k : Nat} (h : k < G.length) : (G ++ [g]).getD k g0 = G.getD k g0 := by simp [List.getD, List.getElem?_append_left h]
theorem gl_at {G : List gz_Gs} {g : gz_Gs} : (G ++ [g]).getD G.length g0 = g := by simp [List.getD]
section
variable {h q q' : gz_H} {t dr n p : Nat} {c : Nat → Int32}
theorem x_goose (X : XR h q t dr n c p) (ht : t < 4) (hn : n ≤ 80) (hd : dr = 43 ∨ dr = 58) (hp : p < n) {L : List Nat} {G : List gz_Gs} (hL : L.length ≤ 8) (hG : G.length < 6) (x : xv q dr (TT L G) (DD G)) : ∃ q', fX5_readGoose 17 q = some (nI (if (goN c n L.length p).1 = true then 1 else 0), q') ∧ XR h q' t dr n c (goN c n L.length p).2.1 ∧ (goN c n L.length p).2.1 ≤ n ∧ ((goN c n L.length p).1 = true → xv q' dr (TT L (G ++ [(goN c n L.length p).2.2])) (DD (G ++ [(goN c n L.length p).2.2])) ∧ gkN L.length (goN c n L.length p).2.2) := by
  have lt := x_letter X ht hn hp
  have X0 := X
  obtain ⟨x0, x5, x6, x7, x8, x9, x10⟩ := X
  have S := x5.fsh (fa := dr) (by omega)
  have d3 : q.2.1 dr 3 = nI G.length := x.2.1
  have d2 : q.2.1 dr 2 = nI L.length := x.1
  unfold fX5_readGoose fX5_readGoose_0
  rw [ck_t (sh_17 x5), lt, b2_s]
  cases e0 : ltN (c p) with
  | none =>
    have eg : goN c n L.length p = (false, p, g0) := by unfold goN; rw [e0]
    rw [eg, if_pos enc_n]
    exact ⟨q, rfl, X0, by show p ≤ n; omega, fun z => ff_no z⟩
  | some kd =>
    have k5 := lt_5 e0
    have X1 := X0.pos (p + 1) ht
    have H1 := X1.2.1
    have fg1 := x_fig X1 ht hn (by omega)
    rw [if_neg (enc_ne (by omega)), ck_t (sh_17 x5), x7, br_s, ck_t (sh_t S.1), d3, if_pos (show nI G.length < (6 : Int32) from nI_lt (b := 6) hG (by decide)), x9, nI_1, lt_d, ck_t (sh_17 H1), fg1, b2_s]
    cases e1 : fgN c n (p + 1) with
    | none =>
      have eg : goN c n L.length p = (false, p + 1, g0) := by unfold goN; rw [e0]; show (match fgN c n (p + 1) with | none => _ | some mo => _) = _; rw [e1]
      rw [eg, if_pos (show enc none < (1 : Int32) by decide)]
      exact ⟨_, rfl, X1, by show p + 1 ≤ n; omega, fun z => ff_no z⟩
    | some mo =>
      obtain ⟨z1, m9, _⟩ := fg_some e1
      by_cases y : mo = 0 ∨ 9 ≤ mo
      · have eg : goN c n L.length p = (false, p + 1, g0) := by unfold goN; rw [e0]; show (match fgN c n (p + 1) with | none => _ | some mo => _) = _; rw [e1]; exact if_pos y
        rw [eg]
        refine ⟨_, ?_, X1, by show p + 1 ≤ n; omega, fun z => ff_no z⟩
        by_cases w : mo = 0
        · rw [w, if_pos (show enc (some 0) < (1 : Int32) by decide)]; rfl
        · rw [if_neg (show ¬ enc (some mo) < (1 : Int32) from nI_nlt (b := 1) (by omega) (by omega)), if_neg (show ¬ enc (some mo) ≤ (8 : Int32) from nI_ge (a := 8) (by omega) (by omega))]; rfl
      · have X2 := X1.pos (p + 2) ht
        have H2 := X2.2.1
        have fg2 := x_fig X2 ht hn (by omega)
        rw [if_neg (show ¬ enc (some mo) < (1 : Int32) from nI_nlt (b := 1) (by omega) (by omega)), if_pos (show enc (some mo) ≤ (8 : Int32) from nI_le (b := 8) (by omega) (by decide)), ck_t (sh_17 H1), X1.2.2.2.2.2.1, nI_1, lt_d, ck_t (sh_17 H2), fg2, b2_s]
        cases e2 : fgN c n (p + 2) with
        | none =>
          have eg : goN c n L.length p = (false, p + 2, g0) := by
            unfold goN; rw [e0]; show (match fgN c n (p + 1) with | none => _ | some mo => _) = _
            rw [e1]; refine (if_neg y).trans ?_; rw [e2]
          rw [eg, if_pos enc_n]
          exact ⟨_, rfl, X2, by show p + 2 ≤ n; omega, fun z => ff_no z⟩
        | some rk =>
          obtain ⟨z2, r9, _⟩ := fg_some e2
          have eg : goN c n L.length p = ((gsN c n L.length mo (n - (p + 3)) (p + 3) []).1, (gsN c n L.length mo (n - (p + 3)) (p + 3) []).2.1, (kd, mo, rk, (gsN c n L.length mo (n - (p + 3)) (p + 3) []).2.2)) := by
            unfold goN; rw [e0]; show (match fgN c n (p + 1) with | none => _ | some mo => _) = _
            rw [e1]; refine (if_neg y).trans ?_; rw [e2]
          rw [eg]
          generalize hw : uI (uI q 17 2 (nI (p + 1))) 17 2 (nI (p + 2)) = w2 at X2 H2
          have S2 := H2.fsh (fa := dr) (by omega)
          have sg := S2.2.2.2.2.2 G.length hG
          have w3 : w2.2.1 dr 3 = nI G.length := by rw [← hw, uI_ne (by omega), uI_ne (by omega)]; exact d3
          have ow : ∀ a k, a ≠ 17 → w2.2.1 a k = q.2.1 a k := fun a k u => by rw [← hw, uI_ne (by omega), uI_ne (by omega)]
          generalize hu : uI (uI (uI (uI (uI w2 (dr + 3 + 2 * G.length) 2 (nI kd)) (dr + 3 + 2 * G.length) 3 (nI mo)) (dr + 3 + 2 * G.length) 4 (nI rk)) (dr + 3 + 2 * G.length) 1 (0 : Int32)) (dr + 3 + 2 * G.length) 5 (0 : Int32) = u
          have u1 : u.1 = w2.1 := by rw [← hu]; rfl
          have u2 : u.2.2 = w2.2.2 := by rw [← hu]; rfl
          have uo : ∀ a k, a ≠ dr + 3 + 2 * G.length → u.2.1 a k = w2.2.1 a k := fun a k z => by rw [← hu, uI_ne (by omega), uI_ne (by omega), uI_ne (by omega), uI_ne (by omega), uI_ne (by omega)]
          have v1 : u.2.1 (dr + 3 + 2 * G.length) 1 = nI 0 := by rw [← hu, uI_ne (by omega), uI_at]; rfl
          have v2 : u.2.1 (dr + 3 + 2 * G.length) 2 = nI kd := by rw [← hu, uI_ne (by omega), uI_ne (by omega), uI_ne (by omega), uI_ne (by omega), uI_at]
          have v3 : u.2.1 (dr + 3 + 2 * G.length) 3 = nI mo := by rw [← hu, uI_ne (by omega), uI_ne (by omega), uI_ne (by omega), uI_at]
          have v4 : u.2.1 (dr + 3 + 2 * G.length) 4 = nI rk := by rw [← hu, uI_ne (by omega), uI_ne (by omega), uI_at]
          have v5 : u.2.1 (dr + 3 + 2 * G.length) 5 = 0 := by rw [← hu, uI_at]
          have Xu : XR h u t dr n c (p + 2) := X2.blk ht hd u1 u2 (fun a k z => uo a k (by omega))
          have Hu := Xu.2.1
          have X3 := Xu.pos (p + 3) ht
          have Gu : gv (uI u 17 2 (nI (p + 3))) (dr + 3 + 2 * G.length) [] := by
            have sgu := (X3.2.1.fsh (fa := dr) (by omega)).2.2.2.2.2 G.length hG
            exact ⟨sgu.2.1, sgu.2.2.1, sgu.2.2.2, by decide, by rw [uI_ne (by omega)]; exact v1, fun k hk => absurd hk (by simp)⟩
          obtain ⟨q3, e3, a1, a2, a3, a4, a5, a6, a7⟩ := x_gs ht hn hd hL (by omega) (by omega) hG (mo := mo) (n - (p + 3)) (p + 3) [] (uI u 17 2 (nI (p + 3))) X3 (by omega) (Nat.le_refl _) Gu (by rw [uI_ne (by omega)]; exact v3) (by rw [uI_ne (by omega), uo dr 2 (by omega), ow dr 2 (by omega)]; exact d2) (fun f hf => absurd hf (by simp)) List.nodup_nil (by simp) gz_fu (by show n - (p + 3) < 100000; omega)
          have run : ∀ K : Option (Int32 × gz_H), fX5_readGoose_111 gz_fu 17 (dr + 3 + 2 * G.length) (uI u 17 2 (nI (p + 3))) = K → (if enc (some rk) = (-9 : Int32) then some ((0 : Int32), w2) else gz_ck (gz_sh w2 17 5 4) (gz_br (w2.2.2.2 17 3) fun r_22 => gz_ck (gz_sh w2 r_22 1 4) (gz_br (w2.2.2.2 r_22 1) fun r_24 => gz_ck (gz_inb w2 r_24 11 (w2.2.1 r_22 3)) (gz_br (w2.2.2.2 r_24 (w2.2.1 r_22 3).toNatClampNeg) fun r_26 => gz_ck (gz_sh w2 r_26 2 6) (gz_b2 (fX2_become r_26 (enc (some kd)) (enc (some mo)) (enc (some rk)) w2) fun _ h_27 => gz_ck (gz_sh h_27 17 5 4) (gz_lt (uI h_27 17 2 ((h_27.2.1 17 2) + (1 : Int32))) fun h_31 => fX5_readGoose_111 gz_fu 17 r_26 h_31)))))) = K := by
            intro K hK
            rw [if_neg (enc_ne (by omega)), ck_t (sh_17 H2), X2.2.2.2.1, br_s, ck_t (sh_t S2.1), S2.2.2.2.2.1, br_s, w3, ck_t (inb_nI S2.2.2.1 hG (by decide)), nI_clamp (by omega), sg.1, br_s, ck_t (sh_t sg.2.1), show enc (some kd) = nI kd from rfl, show enc (some mo) = nI mo from rfl, show enc (some rk) = nI rk from rfl]
            unfold fX2_become fX2_become_0
            rw [ck_t (sh_t sg.2.1)]
            simp only [lt_d, sh_uI]
            rw [ck_t (sh_t sg.2.1), ck_t (sh_t sg.2.1), ck_t (sh_t sg.2.1), ck_t (sh_t sg.2.1), hu, b2_s, ck_t (sh_17 Hu), Xu.2.2.2.2.2.1, nI_1]
            exact hK
          cases eb : (gsN c n L.length mo (n - (p + 3)) (p + 3) []).1 with
          | false =>
            rw [eb] at e3
            refine ⟨q3, ?_, a1, a4, fun z => ff_no z⟩
            exact run _ e3
          | true =>
            rw [eb] at e3
            have H3 := a1.2.1
            have S3 := H3.fsh (fa := dr) (by omega)
            have o3 : ∀ a k, a ≠ 17 → a ≠ dr + 3 + 2 * G.length → a ≠ dr + 3 + 2 * G.length + 1 → q3.2.1 a k = q.2.1 a k := fun a k z1 z2 z3 => by rw [a3.2.2.1 a k z1 z2 z3, uI_ne (by omega), uo a k z2, ow a k z1]
            have o4 : ∀ k, k ≠ 1 → q3.2.1 (dr + 3 + 2 * G.length) k = u.2.1 (dr + 3 + 2 * G.length) k := fun k z => by rw [a3.2.2.2 k z, uI_ne (by omega)]
            have e4 : fX5_readGoose_190 17 q3 = some (1, uI q3 dr 3 (nI (G.length + 1))) := by
              unfold fX5_readGoose_190
              rw [ck_t (sh_17 H3), a1.2.2.2.1, br_s, ck_t (sh_t S3.1), o3 dr 3 (by omega) (by omega) (by omega), d3, nI_1, lt_d]
            have X4 : XR h (uI q3 dr 3 (nI (G.length + 1))) t dr n c (gsN c n L.length mo (n - (p + 3)) (p + 3) []).2.1 := a1.blk ht hd rfl rfl (fun a k z => uI_ne (by omega))
            refine ⟨uI q3 dr 3 (nI (G.length + 1)), ?_, X4, a4, fun _ => ⟨⟨?_, ?_, fun k hk => ?_, fun i hi => ?_⟩, k5, ⟨by show 1 ≤ mo; omega, by show mo ≤ 8; omega⟩, r9, a7, a6, a5⟩⟩
            · refine run _ (e3.trans ?_)
              rw [if_pos rfl, e4]
              rfl
            · rw [uI_ne (by omega), o3 dr 2 (by omega) (by omega) (by omega)]; exact d2
            · rw [uI_at]
              show _ = nI (G ++ [_]).length
              rw [List.length_append]; rfl
            · rw [uI_ne (by omega), o3 (dr + 1) k (by omega) (by omega) (by omega)]
              exact x.2.2.1 k hk
            · have hi : i < (G ++ [(kd, mo, rk, (gsN c n L.length mo (n - (p + 3)) (p + 3) []).2.2)]).length := hi
              rw [List.length_append] at hi
              have hi : i < G.length + 1 := hi
              by_cases z : i = G.length
              · subst z
                have sg4 := (X4.2.1.fsh (fa := dr) (by omega)).2.2.2.2.2 G.length hG
                have G3 : gv (uI q3 dr 3 (nI (G.length + 1))) (dr + 3 + 2 * G.length) (gsN c n L.length mo (n - (p + 3)) (p + 3) []).2.2 := a2.cg rfl rfl (fun k => ⟨uI_ne (by omega), uI_ne (by omega)⟩)
                show gv _ _ (((G ++ [_]).getD G.length g0).2.2.2) ∧ _ = nI (((G ++ [_]).getD G.length g0).1) ∧ _ = nI (((G ++ [_]).getD G.length g0).2.1) ∧ _ = nI (((G ++ [_]).getD G.length g0).2.2.1) ∧ _
                rw [gl_at]
                exact ⟨G3, by rw [uI_ne (by omega), o4 2 (by omega)]; exact v2, by rw [uI_ne (by omega), o4 3 (by omega)]; exact v3, by rw [uI_ne (by omega), o4 4 (by omega)]; exact v4, by rw [uI_ne (by omega), o4 5 (by omega), v5]; rfl⟩
              · have hi2 : i < G.length := by omega
                obtain ⟨b1, b2, b3, b4, b5⟩ := x.2.2.2 i hi2
                have oo : ∀ k, (uI q3 dr 3 (nI (G.length + 1))).2.1 (dr + 3 + 2 * i) k = q.2.1 (dr + 3 + 2 * i) k := fun k => by rw [uI_ne (by omega), o3 _ _ (by omega) (by omega) (by omega)]
                have sg4 := (X4.2.1.fsh (fa := dr) (by omega)).2.2.2.2.2 i (by omega)
                show gv _ _ (((G ++ [_]).getD i g0).2.2.2) ∧ _ = nI (((G ++ [_]).getD i g0).1) ∧ _ = nI (((G ++ [_]).getD i g0).2.1) ∧ _ = nI (((G ++ [_]).getD i g0).2.2.1) ∧ _
                rw [gl_lt hi2]
                obtain ⟨c1, c2, c3, c4, c5, c6⟩ := b1
                exact ⟨⟨sg4.2.1, sg4.2.2.1, sg4.2.2.2, c4, by rw [oo]; exact c5, fun k hk => by rw [uI_ne (by omega), o3 _ _ (by omega) (by omega) (by omega)]; exact c6 k hk⟩, by rw [oo]; exact b2, by rw [oo]; exact b3, by rw [oo]; exact b4, by rw [oo, b5]; rfl⟩
theorem x_rf59 (ht : t < 4) (hn : n ≤ 80) (hd : dr = 43 ∨ dr = 58) {L : List Nat} (hL : L.length ≤ 8) : ∀ (k p : Nat) (G : List gz_Gs) (q : gz_H), XR h q t dr n c p → p ≤ n → G.length + k = 6 → xv q dr (TT L G) (DD G) → (∀ g ∈ G, gkN L.length g) → ∀ m, k < m → ∃ q', fX5_readFlock_59 m 17 (nI G.length) q = some (if (flN c n L.length k p G).1 = true then -9 else nI (flN c n L.length k p G).2.1, q') ∧ XR h q' t dr n c (flN c n L.length k p G).2.1 ∧ ((flN c n L.length k p G).1 = true → xv q' dr (TT L (flN c n L.length k p G).2.2) (DD (flN c n L.length k p G).2.2) ∧ (∀ g ∈ (flN c n L.length k p G).2.2, gkN L.length g) ∧ 0 < (flN c n L.length k p G).2.2.length ∧ (flN c n L.length k p G).2.2.length ≤ 6) := by
  have e99 : ∀ (p : Nat) (G : List gz_Gs) (q : gz_H), XR h q t dr n c p → p ≤ n → G.length ≤ 6 → xv q dr (TT L G) (DD G) → fX5_readFlock_99 17 q = some (if p < n ∨ G.length = 0 then nI p else -9, q) := by
    intro p G q X hp hG x
    obtain ⟨x0, x5, x6, x7, x8, x9, x10⟩ := X
    have S := x5.fsh (fa := dr) (by omega)
    have d3 : q.2.1 dr 3 = nI G.length := x.2.1
    unfold fX5_readFlock_99 fX5_readFlock_120
    rw [ck_t (sh_17 x5), x8, x9]
    by_cases z : p < n
    · rw [if_pos (nI_lt z (by omega)), ck_t (sh_17 x5), if_pos (Or.inl z)]
    · rw [if_neg (nI_nlt (by omega) (by omega)), x7, br_s, ck_t (sh_t S.1), d3]
      by_cases y : G.length = 0
      · rw [y, if_pos (by decide), ck_t (sh_17 x5), if_pos (Or.inr rfl)]
      · rw [if_neg (fun u => y ((nI_z (by omega)).mp u)), if_neg (fun u => u.elim z y)]
  intro k
  induction k with
  | zero =>
    intro p G q X hp hG x gk m hm
    obtain ⟨m, rfl⟩ : ∃ j, m = j + 1 := ⟨m - 1, by omega⟩
    have G6 : G.length = 6 := by omega
    refine ⟨q, ?_, X, fun _ => ⟨x, gk, by show 0 < G.length; omega, by show G.length ≤ 6; omega⟩⟩
    rw [fX5_readFlock_59, if_pos (show (6 : Int32) ≤ nI G.length by rw [G6]; decide), e99 p G q X hp (by omega) x]
    show some (if p < n ∨ G.length = 0 then nI p else -9, q) = some (if (decide (¬ p < n)) = true then -9 else nI p, q)
    by_cases z : p < n
    · rw [if_pos (Or.inl z), if_neg (by simpa using z)]
    · rw [if_neg (fun u => u.elim z (by omega)), if_pos (by simpa using z)]
  | succ k ih =>
    intro p G q X hp hG x gk m hm
    obtain ⟨m, rfl⟩ : ∃ j, m = j + 1 := ⟨m - 1, by omega⟩
    have X0 := X
    obtain ⟨x0, x5, x6, x7, x8, x9, x10⟩ := X
    rw [fX5_readFlock_59, if_neg (show ¬ (6 : Int32) ≤ nI G.length from nI_ge (b := 6) (by omega) (by decide)), ck_t (sh_17 x5), x8, x9]
    by_cases z : p < n
    · obtain ⟨q1, e1, X1, p1, f1⟩ := x_goose X0 ht hn hd z hL (by omega) x
      have H1 := X1.2.1
      rw [if_neg (nI_ge z (by omega)), e1, b2_s]
      cases eb : (goN c n L.length p).1 with
      | false =>
        have ef : flN c n L.length (k + 1) p G = (false, (goN c n L.length p).2.1, G) := by rw [flN, if_pos z, if_neg (by rw [eb]; decide)]
        rw [ef]
        refine ⟨q1, ?_, X1, fun u => ff_no u⟩
        rw [if_pos (show nI (if false = true then 1 else 0) = 0 from rfl), ck_t (sh_17 H1), X1.2.2.2.2.2.1]
        rfl
      | true =>
        have ef : flN c n L.length (k + 1) p G = flN c n L.length k (skN c n (n - (goN c n L.length p).2.1) (goN c n L.length p).2.1) (G ++ [(goN c n L.length p).2.2]) := by rw [flN, if_pos z, if_pos eb]
        rw [ef]
        obtain ⟨f1, f2⟩ := f1 eb
        obtain ⟨q2, e2, X2, s2⟩ := x_skipB X1 ht hn p1
        have gl : (G ++ [(goN c n L.length p).2.2]).length = G.length + 1 := by rw [List.length_append]; rfl
        obtain ⟨q3, e3, r3⟩ := ih _ (G ++ [(goN c n L.length p).2.2]) q2 X2 (sk_le _ _ p1) (by omega) (xv_sp hd (by rw [TT_G, gl]; omega) f1 s2) (fun g hg => (List.mem_append.mp hg).elim (gk g) (fun u => by rw [List.mem_singleton.mp u]; exact f2)) m (by omega)
        refine ⟨q3, ?_, r3⟩
        rw [if_pos rfl, if_neg (by decide), ck_t (sh_17 H1), e2, b2_s, nI_1, ← gl]
        exact e3
    · have ef : flN c n L.length (k + 1) p G = (decide (0 < G.length), p, G) := by rw [flN, if_neg z]
      rw [ef]
      refine ⟨q, ?_, X0, fun u => ⟨x, gk, of_decide_eq_true u, by show G.length ≤ 6; omega⟩⟩
      rw [if_pos (nI_le (by omega) (by omega)), e99 p G q X0 hp (by omega) x]
      show some (if p < n ∨ G.length = 0 then nI p else -9, q) = some (if (decide (0 < G.length)) = true then -9 else nI p, q)
      by_cases y : G.length = 0
      · rw [if_pos (Or.inr y), if_neg (by rw [y]; decide)]
      · rw [if_neg (fun u => u.elim z y), if_pos (decide_eq_true (by omega))]
/-- what is read: the answer -/
def rdA (R : Bool × Nat × List Nat × List gz_Gs) : Int32 := if R.1 = true then -9 else nI R.2.1
theorem La_of2 {h h' : gz_H} (H : gz_La h) (e1 : h'.1 = h.1) (e2 : ∀ a k, a ≠ 17 → (a ≠ 0 ∨ (k ≠ 10 ∧ k ≠ 11)) → h'.2.2.2 a k = h.2.2.2 a k) : gz_La h' := by
  refine ⟨e1.trans H.1, fun q hq => ?_⟩
  have : ∀ q ∈ gz_RT, q.1 ≠ 17 ∧ (q.1 ≠ 0 ∨ (q.2.1 ≠ 10 ∧ q.2.1 ≠ 11)) := by decide
  rw [e2 _ _ (this q hq).1 (this q hq).2]
  exact H.2 q hq
theorem x_read (H : gz_La h) (ht : t < 4) (hn : n ≤ 80) (hd : dr = 43 ∨ dr = 58) (hc : ∀ k, k < n → h.2.1 (12 + t) k = c k) : ∃ q', fX5_readFlock 17 (12 + t) (nI n) dr h = some (rdA (rdN c n), q') ∧ CF h q' dr ∧ gz_La q' ∧ ((rdN c n).1 = true → xv q' dr (TT (rdN c n).2.2.1 (rdN c n).2.2.2) (DD (rdN c n).2.2.2) ∧ (0 < (rdN c n).2.2.1.length ∧ (rdN c n).2.2.1.length ≤ 8 ∧ ∀ d ∈ (rdN c n).2.2.1, d ≤ 5) ∧ (0 < (rdN c n).2.2.2.length ∧ (rdN c n).2.2.2.length ≤ 6 ∧ ∀ g ∈ (rdN c n).2.2.2, gkN (rdN c n).2.2.1.length g)) := by
  generalize hu : uI (uI (uR (uI (uI (uR h 17 0 (some (12 + t))) 17 1 (nI n)) 17 2 (0 : Int32)) 17 3 (some dr)) dr 2 (0 : Int32)) dr 3 (0 : Int32) = u
  have H1 : gz_La (uR h 17 0 (some (12 + t))) := La_of2 H rfl (fun a k z _ => by rw [uR_RR, if_neg (by omega)])
  have H2 : gz_La (uI (uR h 17 0 (some (12 + t))) 17 1 (nI n)) := H1.of rfl rfl
  have H3 : gz_La (uI (uI (uR h 17 0 (some (12 + t))) 17 1 (nI n)) 17 2 (0 : Int32)) := H2.of rfl rfl
  have H4 : gz_La (uR (uI (uI (uR h 17 0 (some (12 + t))) 17 1 (nI n)) 17 2 (0 : Int32)) 17 3 (some dr)) := La_of2 H3 rfl (fun a k z _ => by rw [uR_RR, if_neg (by omega)])
  have H5 : gz_La (uI (uR (uI (uI (uR h 17 0 (some (12 + t))) 17 1 (nI n)) 17 2 (0 : Int32)) 17 3 (some dr)) dr 2 (0 : Int32)) := H4.of rfl rfl
  have Hu : gz_La u := by rw [← hu]; exact H5.of rfl rfl
  have S4 := H4.fsh (fa := dr) (by omega)
  have S5 := H5.fsh (fa := dr) (by omega)
  have r0 : u.2.2.2 17 0 = some (12 + t) := by
    rw [← hu]
    show (uR (uI (uI (uR h 17 0 (some (12 + t))) 17 1 (nI n)) 17 2 (0 : Int32)) 17 3 (some dr)).2.2.2 17 0 = _
    rw [uR_RR, if_neg (by omega)]
    show (uR h 17 0 (some (12 + t))).2.2.2 17 0 = _
    rw [uR_RR, if_pos ⟨rfl, rfl⟩]
  have r3 : (uR (uI (uI (uR h 17 0 (some (12 + t))) 17 1 (nI n)) 17 2 (0 : Int32)) 17 3 (some dr)).2.2.2 17 3 = some dr := by rw [uR_RR, if_pos ⟨rfl, rfl⟩]
  have Xu : XR h u t dr n c 0 := by
    refine ⟨⟨by rw [← hu]; rfl, by rw [← hu]; rfl, fun a k z => ?_, fun a k z1 z2 => ?_⟩, Hu, r0, by rw [← hu]; exact r3, ?_, ?_, fun k hk => ?_⟩
    · rw [← hu]
      show (uR (uI (uI (uR h 17 0 (some (12 + t))) 17 1 (nI n)) 17 2 (0 : Int32)) 17 3 (some dr)).2.2.2 a k = _
      rw [uR_RR, if_neg (by omega)]
      show (uR h 17 0 (some (12 + t))).2.2.2 a k = _
      rw [uR_RR, if_neg (by omega)]
    · rw [← hu, uI_ne (by omega), uI_ne (by omega), uR_I, uI_ne (by omega), uI_ne (by omega), uR_I]
    · rw [← hu, uI_ne (by omega), uI_ne (by omega), uR_I, uI_ne (by omega), uI_at]
    · rw [← hu, uI_ne (by omega), uI_ne (by omega), uR_I, uI_at]; rfl
    · rw [← hu, uI_ne (by omega), uI_ne (by omega), uR_I, uI_ne (by omega), uI_ne (by omega), uR_I]; exact hc k hk
  have xu : xv u dr (TT [] []) (DD []) := ⟨by rw [← hu, uI_ne (by omega), uI_at]; rfl, by rw [← hu, uI_at]; rfl, fun k hk => absurd hk (by show ¬ k < 0; omega), fun i hi => absurd hi (by show ¬ i < 0; omega)⟩
  obtain ⟨q1, e1, X1, s1⟩ := x_skipB Xu ht hn (by omega)
  rw [Nat.sub_zero] at X1
  have p1 := sk_le (c := c) (n := n) n 0 (by omega)
  obtain ⟨q2, e2, X2, x2, p2, l2, b2⟩ := x_vill X1 ht hn hd p1 (xv_sp hd (by show 0 ≤ 6; omega) xu s1)
  have Hq1 := X1.2.1
  have Hq2 := X2.2.1
  have start : fX5_readFlock 17 (12 + t) (nI n) dr h = if nI (if (viN c n (skN c n n 0)).1 = true then 1 else 0) = 0 then some (nI (viN c n (skN c n n 0)).2.1, q2) else gz_ck (gz_sh q2 17 5 4) (gz_b2 (fX5_skipBlanks 17 q2) fun _ h_24 => fX5_readFlock_59 gz_fu 17 (0 : Int32) h_24) := by
    unfold fX5_readFlock fX5_readFlock_0
    rw [ck_t (sh_17 H), lt_d, ck_t (sh_17 H1), lt_d, ck_t (sh_17 H2), lt_d, ck_t (sh_17 H3), lt_d, ck_t (sh_17 H4), r3, br_s, ck_t (sh_t S4.1), lt_d, ck_t (sh_17 H5)]
    show (gz_br ((uR (uI (uI (uR h 17 0 (some (12 + t))) 17 1 (nI n)) 17 2 (0 : Int32)) 17 3 (some dr)).2.2.2 17 3) _) = _
    rw [r3, br_s, ck_t (sh_t S5.1), lt_d, hu, ck_t (sh_17 Hu), e1, b2_s, ck_t (sh_17 Hq1), e2, b2_s, ck_t (sh_17 Hq2), X2.2.2.2.2.2.1, ck_t (sh_17 Hq2)]
  rw [start]
  cases ev : (viN c n (skN c n n 0)).1 with
  | false =>
    have er : rdN c n = (false, (viN c n (skN c n n 0)).2.1, (viN c n (skN c n n 0)).2.2, []) := by unfold rdN; rw [if_neg (by rw [ev]; decide)]
    rw [er]
    exact ⟨q2, rfl, X2.1, Hq2, fun z => ff_no z⟩
  | true =>
    obtain ⟨q3, e3, X3, s3⟩ := x_skipB X2 ht hn p2
    obtain ⟨q4, e4, X4, f4⟩ := x_rf59 ht hn hd l2 6 _ [] q3 X3 (sk_le _ _ p2) rfl (xv_sp hd (by show 0 ≤ 6; omega) x2 s3) (fun g hg => absurd hg (by simp)) gz_fu (by show 6 < 100000; omega)
    have er : rdN c n = ((flN c n (viN c n (skN c n n 0)).2.2.length 6 (skN c n (n - (viN c n (skN c n n 0)).2.1) (viN c n (skN c n n 0)).2.1) []).1, (flN c n (viN c n (skN c n n 0)).2.2.length 6 (skN c n (n - (viN c n (skN c n n 0)).2.1) (viN c n (skN c n n 0)).2.1) []).2.1, (viN c n (skN c n n 0)).2.2, (flN c n (viN c n (skN c n n 0)).2.2.length 6 (skN c n (n - (viN c n (skN c n n 0)).2.1) (viN c n (skN c n n 0)).2.1) []).2.2) := by unfold rdN; rw [if_pos ev]
    rw [er]
    refine ⟨q4, ?_, X4.1, X4.2.1, fun z => ?_⟩
    · rw [if_pos rfl, if_neg (by decide), ck_t (sh_17 Hq2), e3, b2_s]
      exact e4
    · obtain ⟨g1, g2, g3, g4⟩ := f4 z
      refine ⟨g1, ⟨?_, l2, b2⟩, g3, g4, g2⟩
      have : ∀ k p L, (vlN c n k p L).1 = true → 0 < (vlN c n k p L).2.2.length := by
        intro k
        induction k with
        | zero => intro p L u; exact of_decide_eq_true u
        | succ k ih =>
          intro p L u
          rw [vlN] at u ⊢
          cases e : fgN c n p with
          | none => rw [e] at u; exact of_decide_eq_true u
          | some d =>
            rw [e] at u
            by_cases y : 6 ≤ d ∨ 8 ≤ L.length
            · have u : (if 6 ≤ d ∨ 8 ≤ L.length then (false, p, L) else vlN c n k (p + 1) (L ++ [d])).1 = true := u
              rw [if_pos y] at u; exact ff_no u
            · have u : (if 6 ≤ d ∨ 8 ≤ L.length then (false, p, L) else vlN c n k (p + 1) (L ++ [d])).1 = true := u
              rw [if_neg y] at u
              show 0 < (if 6 ≤ d ∨ 8 ≤ L.length then (false, p, L) else vlN c n k (p + 1) (L ++ [d])).2.2.length
              rw [if_neg y]; exact ih _ _ u
      show 0 < (viN c n (skN c n n 0)).2.2.length
      have ev2 := ev
      unfold viN at ev2 ⊢
      by_cases y : skN c n n 0 < n ∧ c (skN c n n 0) = 118
      · rw [if_pos y] at ev2 ⊢; exact this _ _ _ ev2
      · rw [if_neg y] at ev2; exact ff_no ev2
end
