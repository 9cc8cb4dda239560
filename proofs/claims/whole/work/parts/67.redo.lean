/-! PURE: undo, keep, on agree -/
section
variable {h : gz_H}
theorem cp_I {a b n : Nat} (hn : n < 2 ^ 31) (x k : Nat) : (gz_cp h a b (0 : Int32) (0 : Int32) (nI n)).2.1 x k = if x = b ∧ k < n then h.2.1 a k else h.2.1 x k := by
  unfold gz_cp
  rw [nI_clamp hn, uF_I]
  show (if x = b then va_cpy (h.2.1 a) (h.2.1 b) 0 0 n k else h.2.1 x k) = _
  by_cases c : x = b
  · subst c
    rw [if_pos rfl]
    by_cases d : k < n
    · rw [pk_cpy_in (by omega) (by omega), if_pos ⟨rfl, d⟩]
      exact congrArg (h.2.1 a) (by omega)
    · rw [pk_cpy_out (by omega), if_neg (fun z => d z.2)]
  · rw [if_neg c, if_neg (fun z => c z.1)]
theorem x_beLike {g g' : Nat} (v1 : h.1[g]? = some (2, 6)) (v2 : h.1[g + 1]? = some (10, 8)) (v3 : h.2.2.2 g 0 = some (g + 1)) (u1 : h.1[g']? = some (2, 6)) (u2 : h.1[g' + 1]? = some (10, 8)) (u3 : h.2.2.2 g' 0 = some (g' + 1)) (d1 : g' ≠ g) (d2 : g' ≠ g + 1) (d3 : g' + 1 ≠ g) (b5 : gz_bo (h.2.1 g' 5) = true) : ∃ h', fX2_becomeLike g g' h = some ((), h') ∧ h'.1 = h.1 ∧ h'.2.2 = h.2.2 ∧ (∀ a k, a ≠ g → a ≠ g + 1 → h'.2.1 a k = h.2.1 a k) ∧ (∀ k, 1 ≤ k → k ≤ 5 → h'.2.1 g k = h.2.1 g' k) ∧ ∀ k, k < 8 → h'.2.1 (g + 1) k = h.2.1 (g' + 1) k := by
  have e8 : (8 : Int32) = nI 8 := rfl
  generalize hB : uI (uI (uI (uI (uI h g 2 (h.2.1 g' 2)) g 3 (h.2.1 g' 3)) g 4 (h.2.1 g' 4)) g 1 0) g 5 0 = hb
  have o1 : ∀ a k, a ≠ g → hb.2.1 a k = h.2.1 a k := fun a k q => by rw [← hB, uI_ne (by omega), uI_ne (by omega), uI_ne (by omega), uI_ne (by omega), uI_ne (by omega)]
  have b1 : hb.1 = h.1 := by rw [← hB]; rfl
  have b2 : hb.2.2 = h.2.2 := by rw [← hB]; rfl
  have b2r : hb.2.2.2 = h.2.2.2 := congrArg Prod.snd b2
  generalize hC : gz_cp hb (g' + 1) (g + 1) (0 : Int32) (0 : Int32) (nI 8) = hc
  have c1 : hc.1 = h.1 := by rw [← hC, ← b1]; rfl
  have c2 : hc.2.2 = h.2.2 := by rw [← hC, ← b2]; rfl
  have oc : ∀ x k, hc.2.1 x k = if x = g + 1 ∧ k < 8 then hb.2.1 (g' + 1) k else hb.2.1 x k := fun x k => by rw [← hC]; exact cp_I (by decide) x k
  have cg1 : hc.2.1 g' 1 = h.2.1 g' 1 := by rw [oc, if_neg (by omega), o1 _ _ d1]
  have cg5 : (uI hc g 1 (h.2.1 g' 1)).2.1 g' 5 = h.2.1 g' 5 := by rw [uI_ne (by omega), oc, if_neg (by omega), o1 _ _ d1]
  refine ⟨uI (uI hc g 1 (h.2.1 g' 1)) g 5 (h.2.1 g' 5), ?_, c1, c2, fun a k q1 q2 => by rw [uI_ne (by omega), uI_ne (by omega), oc, if_neg (by omega), o1 a k q1], fun k q1 q2 => ?_, fun k hk => by rw [uI_ne (by omega), uI_ne (by omega), oc, if_pos ⟨rfl, hk⟩, o1 _ _ d3]⟩
  · unfold fX2_becomeLike fX2_becomeLike_0 fX2_become fX2_become_0
    rw [ck_t (sh_t u1), ck_t (sh_t v1)]
    simp only [lt_d, sh_uI]
    rw [ck_t (sh_t v1), ck_t (sh_t v1), ck_t (sh_t v1), ck_t (sh_t v1), ck_t (sh_t v1), hB, b2_s, ck_t (sh_t (by rw [b1]; exact u1)), b2r, u3, br_s, ck_t (sh_t (by rw [b1]; exact v1)), v3, br_s, ck_t (show gz_cpOk hb (g' + 1) (g + 1) (0 : Int32) (0 : Int32) (8 : Int32) = true from cpOk_t (i := 0) (j := 0) (n := 8) (n0 := 8) (n1 := 8) (by rw [b1]; exact u2) (by rw [b1]; exact v2) (by omega) (by omega) (by decide) (by decide)), e8, hC, ck_t (sh_t (by rw [c1]; exact u1)), ck_t (sh_t (by rw [c1]; exact v1)), cg1, ck_t (sh_t (by rw [c1]; exact u1)), ck_t (sh_t (by rw [c1]; exact v1)), cg5, ck_t b5]
  · by_cases k5 : k = 5
    · rw [k5, uI_at]
    · rw [uI_ne (by omega)]
      by_cases k1 : k = 1
      · rw [k1, uI_at]
      · rw [uI_ne (by omega), oc, if_neg (by omega), ← hB, uI_ne (by omega), uI_ne (by omega)]
        by_cases k4 : k = 4
        · rw [k4, uI_at]
        · rw [uI_ne (by omega)]
          by_cases k3 : k = 3
          · rw [k3, uI_at]
          · rw [uI_ne (by omega), show k = 2 by omega, uI_at]
end
/-- a flock's cells stand at fa -/
def fsh (h : gz_H) (fa : Nat) : Prop := h.1[fa]? = some (1, 4) ∧ h.1[fa + 1]? = some (10, 8) ∧ h.1[fa + 2]? = some (11, 6) ∧ h.2.2.2 fa 0 = some (fa + 1) ∧ h.2.2.2 fa 1 = some (fa + 2) ∧ ∀ i, i < 6 → h.2.2.2 (fa + 2) i = some (fa + 3 + 2 * i) ∧ h.1[fa + 3 + 2 * i]? = some (2, 6) ∧ h.1[fa + 3 + 2 * i + 1]? = some (10, 8) ∧ h.2.2.2 (fa + 3 + 2 * i) 0 = some (fa + 3 + 2 * i + 1)
theorem gz_La.fsh {h : gz_H} (H : gz_La h) {fa : Nat} (hf : fa = 28 ∨ fa = 43 ∨ fa = 58) : fsh h fa := by
  rcases hf with rfl | rfl | rfl
  · exact ⟨H.sh rfl, H.sh rfl, H.sh rfl, H.rf 28 0 29 (by decide), H.rf 28 1 30 (by decide), fun i hi => ⟨rf_30 H hi, sg_31 H hi⟩⟩
  · exact ⟨H.sh rfl, H.sh rfl, H.sh rfl, H.rf 43 0 44 (by decide), H.rf 43 1 45 (by decide), fun i hi => ⟨rf_45 H hi, sg_46 H hi⟩⟩
  · exact ⟨H.sh rfl, H.sh rfl, H.sh rfl, H.rf 58 0 59 (by decide), H.rf 58 1 60 (by decide), fun i hi => ⟨rf_60 H hi, sg_61 H hi⟩⟩
/-- only now's cells change -/
def fN (h h' : gz_H) : Prop := h'.1 = h.1 ∧ h'.2.2 = h.2.2 ∧ ∀ a k, ¬ (28 ≤ a ∧ a ≤ 42) → h'.2.1 a k = h.2.1 a k
theorem fN.tr {h h1 h2 : gz_H} (a : fN h h1) (b : fN h1 h2) : fN h h2 := ⟨b.1.trans a.1, b.2.1.trans a.2.1, fun x k e => (b.2.2 x k e).trans (a.2.2 x k e)⟩
theorem fN.la {h h' : gz_H} (f : fN h h') (H : gz_La h) : gz_La h' := H.of f.1 (congrArg Prod.snd f.2.1)
theorem fl.fN {h h' : gz_H} (f : fl h h') : fN h h' := ⟨f.1, f.2.1, fun a k e => f.2.2 a k (by omega)⟩
section
variable {h : gz_H} {T : gz_T} {D : gz_D}
theorem x_become (H : gz_La h) (w : wsT T) (d : wd T D) {sa : Nat} (hs : sa = 43 ∨ sa = 58) (x : xv h sa T D) : ∃ h', fX1_become 28 sa h = some ((), h') ∧ XV h' T D ∧ fN h h' := by
  have S := H.fsh (fa := sa) (by omega)
  have N := H.fsh (fa := 28) (by omega)
  have hb := w.2.1
  have hbf := w.1
  obtain ⟨s1, s2, s3, s4, s5, s6⟩ := S
  obtain ⟨n1, n2, n3, n4, n5, n6⟩ := N
  obtain ⟨x1, x2, x3, x4⟩ := x
  generalize hC : gz_cp h (sa + 1) 29 (0 : Int32) (0 : Int32) (nI 8) = hc
  have oc : ∀ x k, hc.2.1 x k = if x = 29 ∧ k < 8 then h.2.1 (sa + 1) k else h.2.1 x k := fun x k => by rw [← hC]; exact cp_I (by decide) x k
  have c1 : hc.1 = h.1 := by rw [← hC]; rfl
  have c2 : hc.2.2 = h.2.2 := by rw [← hC]; rfl
  have ec2 : hc.2.1 sa 2 = nI T.1 := by rw [oc, if_neg (by omega)]; exact x1
  have ec3 : (uI hc 28 2 (nI T.1)).2.1 sa 3 = nI T.2.1 := by rw [uI_ne (by omega), oc, if_neg (by omega)]; exact x2
  have start : fX1_become 28 sa h = fX1_become_33 gz_fu 28 sa (nI 0) (uI (uI hc 28 2 (nI T.1)) 28 3 (nI T.2.1)) := by
    unfold fX1_become fX1_become_0
    rw [ck_t (sh_t s1), s4, br_s, ck_t (sh_t n1), n4, br_s, ck_t (show gz_cpOk h (sa + 1) (28 + 1) (0 : Int32) (0 : Int32) (8 : Int32) = true from cpOk_t (i := 0) (j := 0) (n := 8) (n0 := 8) (n1 := 8) s2 n2 (by omega) (by omega) (by decide) (by decide)), lt_d, show (8 : Int32) = nI 8 from rfl, hC, ck_t (sh_t (by rw [c1]; exact s1)), ck_t (sh_t (by rw [c1]; exact n1)), lt_d, ec2, ck_t (sh_t (by rw [uI_1, c1]; exact s1)), ck_t (sh_t (by rw [uI_1, c1]; exact n1)), lt_d, ec3]
    rfl
  rw [start]
  have hfu : T.2.1 < 0 + gz_fu := by show T.2.1 < 0 + 100000; omega
  generalize gz_fu = fu at hfu ⊢
  refine lpr (fun m k (s : gz_H) => fX1_become_33 m 28 sa (nI k) s) (fun k s => fN h s ∧ s.2.1 28 2 = nI T.1 ∧ s.2.1 28 3 = nI T.2.1 ∧ (∀ q, q < T.1 → s.2.1 29 q = nI (T.2.2.1 q)) ∧ ∀ i, i < k → i < T.2.1 → (∀ q, 1 ≤ q → q ≤ 5 → s.2.1 (31 + 2 * i) q = h.2.1 (sa + 3 + 2 * i) q) ∧ ∀ q, q < 8 → s.2.1 (31 + 2 * i + 1) q = h.2.1 (sa + 3 + 2 * i + 1) q) T.2.1 (fun r => ∃ h', r = some ((), h') ∧ XV h' T D ∧ fN h h') ?_ ?_ fu 0 _ (by omega) hfu ⟨⟨by rw [uI_1, uI_1, c1], by show hc.2.2 = _; exact c2, fun a k q => by rw [uI_ne (by omega), uI_ne (by omega), oc, if_neg (by omega)]⟩, by rw [uI_ne (by omega), uI_at], uI_at, fun q hq => by rw [uI_ne (by omega), uI_ne (by omega), oc, if_pos ⟨rfl, by omega⟩]; exact x3 q hq, fun i hi => absurd hi (by omega)⟩
  · intro m s ⟨f, e1, e2, e3, e4⟩
    have H1 := f.la H
    refine ⟨s, ?_, ⟨H1, w, d, e1, e2, e3, fun i hi => ?_⟩, f⟩
    · rw [fX1_become_33, ck_t (sh_28 H1), e2, if_pos (nI_le (Nat.le_refl _) (by omega))]
    · obtain ⟨y1, y2⟩ := e4 i hi hi
      obtain ⟨z1, z2, z3, z4, z5⟩ := x4 i hi
      obtain ⟨g1, g2, g3, g4, g5, g6⟩ := z1
      have sg := sg_31 H1 (j := i) (by omega)
      refine ⟨⟨sg.1, sg.2.1, sg.2.2, g4, ?_, fun k hk => ?_⟩, ?_, ?_, ?_, ?_⟩
      · show s.2.1 (31 + 2 * i) 1 = _
        rw [y1 1 (by omega) (by omega)]; exact g5
      · show s.2.1 (31 + 2 * i + 1) k = _
        rw [y2 k (by omega)]; exact g6 k hk
      · show s.2.1 (31 + 2 * i) 2 = _
        rw [y1 2 (by omega) (by omega)]; exact z2
      · show s.2.1 (31 + 2 * i) 3 = _
        rw [y1 3 (by omega) (by omega)]; exact z3
      · show s.2.1 (31 + 2 * i) 4 = _
        rw [y1 4 (by omega) (by omega)]; exact z4
      · show s.2.1 (31 + 2 * i) 5 = _
        rw [y1 5 (by omega) (by omega)]; exact z5
  · intro m i s hi ⟨f, e1, e2, e3, e4⟩
    have H1 := f.la H
    have hr : s.2.2.2 = h.2.2.2 := congrArg Prod.snd f.2.1
    have nn := (H1.fsh (fa := 28) (by omega)).2.2.2.2.2 i (by omega)
    have ss := (H1.fsh (fa := sa) (by omega)).2.2.2.2.2 i (by omega)
    have S1 := H1.fsh (fa := sa) (by omega)
    have og : ∀ q, s.2.1 (sa + 3 + 2 * i) q = h.2.1 (sa + 3 + 2 * i) q := fun q => f.2.2 _ q (by omega)
    have og1 : ∀ q, s.2.1 (sa + 3 + 2 * i + 1) q = h.2.1 (sa + 3 + 2 * i + 1) q := fun q => f.2.2 _ q (by omega)
    have g5 : gz_bo (s.2.1 (sa + 3 + 2 * i) 5) = true := by
      rw [og, (x4 i hi).2.2.2.2]
      by_cases c : (D i).2 = true
      · rw [if_pos c]; rfl
      · rw [if_neg c]; rfl
    obtain ⟨h', e, b1, b2, b3, b4, b5⟩ := x_beLike (g := 31 + 2 * i) (g' := sa + 3 + 2 * i) nn.2.1 nn.2.2.1 nn.2.2.2 ss.2.1 ss.2.2.1 ss.2.2.2 (by omega) (by omega) (by omega) g5
    refine ⟨h', ⟨⟨b1.trans f.1, b2.trans f.2.1, fun a k q => by rw [b3 a k (by omega) (by omega)]; exact f.2.2 a k q⟩, by rw [b3 _ _ (by omega) (by omega)]; exact e1, by rw [b3 _ _ (by omega) (by omega)]; exact e2, fun q hq => by rw [b3 _ _ (by omega) (by omega)]; exact e3 q hq, fun j hj1 hj2 => ?_⟩, ?_⟩
    · by_cases c : j = i
      · subst c
        exact ⟨fun q q1 q2 => by rw [b4 q q1 q2, og], fun q hq => by rw [b5 q hq, og1]⟩
      · obtain ⟨y1, y2⟩ := e4 j (by omega) hj2
        exact ⟨fun q q1 q2 => by rw [b3 _ _ (by omega) (by omega)]; exact y1 q q1 q2, fun q hq => by rw [b3 _ _ (by omega) (by omega)]; exact y2 q hq⟩
    · rw [fX1_become_33, ck_t (sh_28 H1), e2, if_neg (nI_ge hi (by omega)), rf_28_1 H1, br_s, ck_t (in_30 H1 (by omega)), nI_clamp (by omega), rf_30 H1 (by omega), br_s, ck_t (sh_t S1.1), S1.2.2.2.2.1, br_s, ck_t (inb_nI S1.2.2.1 (by omega) (by decide)), ss.1, br_s, ck_t (sgk_31 H1 (by omega)), e, b2_s, nI_1]
theorem x_repeat (H : gz_La h) (w : wsT T) (d : wd T D) {sa : Nat} (hs : sa = 43 ∨ sa = 58) (hr : h.2.2.2 0 10 = some sa) (x : xv h sa T D) {es : List gz_De} (L : lgv h 25 es) (g : gl T D es) : ∃ h', fX8_repeatDeeds 0 h = some ((), h') ∧ XV h' T (rn T D es) ∧ fN h h' := by
  obtain ⟨h1, e1, V1, f1⟩ := x_become H w d hs x
  have hl := g.1
  unfold fX8_repeatDeeds fX8_repeatDeeds_0
  rw [ck_t (sh_0 H), rf_0_9 H, br_s, hr, br_s, ck_t (sh_28 H), e1, b2_s]
  have hfu : es.length < 0 + gz_fu := by show es.length < 0 + 100000; omega
  generalize gz_fu = fu at hfu ⊢
  refine lpr (fun m k (s : gz_H) => fX8_repeatDeeds_13 m 0 (nI k) s) (fun k s => XV s T (rn T D (es.take k)) ∧ fN h s) es.length (fun r => ∃ h', r = some ((), h') ∧ XV h' T (rn T D es) ∧ fN h h') ?_ ?_ fu 0 h1 (by omega) hfu ⟨by rw [List.take_zero]; exact V1, f1⟩
  · intro m s ⟨V, f⟩
    have Hs := V.H
    have L1 : s.2.1 25 1 = nI es.length := by rw [f.2.2 25 1 (by omega)]; exact L.1
    rw [List.take_length] at V
    refine ⟨s, ?_, V, f⟩
    rw [fX8_repeatDeeds_13, ck_t (sh_0 Hs), rf_0_7 Hs, br_s, ck_t (sh_25 Hs), L1, if_pos (nI_le (Nat.le_refl _) (by omega))]
  · intro m k s hk ⟨V, f⟩
    have Hs := V.H
    have L1 : s.2.1 25 1 = nI es.length := by rw [f.2.2 25 1 (by omega)]; exact L.1
    have L2 : s.2.1 26 k = nI (dcode (es.getD k (0, 0, 0))) := by rw [f.2.2 26 k (by omega)]; exact L.2 k hk
    have ld := g.2.2.2 k hk
    have hm : es.getD k (0, 0, 0) ∈ es := by
      rw [List.getD_eq_getElem?_getD, List.getElem?_eq_getElem hk]
      exact List.getElem_mem hk
    have vv := g.2.1 _ hm
    have tk1 : es.take (k + 1) = es.take k ++ [es.getD k (0, 0, 0)] := by
      rw [List.take_succ, List.getElem?_eq_getElem hk, List.getD_eq_getElem?_getD, List.getElem?_eq_getElem hk]
      rfl
    generalize es.getD k (0, 0, 0) = dd at L2 ld vv tk1
    have dx := dc_x w vv
    obtain ⟨h', e, V', f'⟩ := x_perform V vv ld
    refine ⟨h', ⟨by rw [tk1, rn_add]; exact V', f.tr f'.fN⟩, ?_⟩
    rw [fX8_repeatDeeds_13, ck_t (sh_0 Hs), rf_0_7 Hs, br_s, ck_t (sh_25 Hs), L1, if_neg (nI_ge hk (by omega)), rf_0_9 Hs, br_s]
    unfold fX3_deedAt fX3_deedAt_0 fX3_doneTo fX3_doneTo_0 fX3_doneWith fX3_doneWith_0
    rw [ck_t (sh_25 Hs), rf_25_0 Hs, br_s, ck_t (in_26 Hs (by omega)), nI_clamp (by omega), L2, b2_s, ck_t (sh_0 Hs), rf_0_7 Hs, br_s, ck_t (sh_25 Hs), ck_t (sh_25 Hs), rf_25_0 Hs, br_s, ck_t (in_26 Hs (by omega)), L2, b2_s, ck_t (sh_0 Hs), rf_0_7 Hs, br_s, ck_t (sh_25 Hs), ck_t (sh_25 Hs), rf_25_0 Hs, br_s, ck_t (in_26 Hs (by omega)), L2, b2_s, ck_t (sh_28 Hs), dx.1, dx.2.1, dx.2.2, e, b2_s, nI_1]
end
