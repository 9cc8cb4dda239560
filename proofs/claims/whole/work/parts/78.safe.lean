/-! PURE: safe agrees -/
theorem fs_mono {f g : Nat → Nat} : ∀ {n : Nat}, (∀ i, i < n → f i ≤ g i) → fs f n ≤ fs g n := by
  intro n
  induction n with
  | zero => intro _; exact Nat.le_refl _
  | succ n ih => intro e; exact Nat.add_le_add (ih (fun i hi => e i (by omega))) (e n (by omega))
theorem fs_swap {g : Nat → Nat → Nat} {F : Nat} : ∀ n, fs (fun f => fs (fun i => g i f) n) F = fs (fun i => fs (fun f => g i f) F) n := by
  intro n
  induction n with
  | zero =>
    induction F with
    | zero => rfl
    | succ F ih => show fs (fun f => fs (fun i => g i f) 0) F + 0 = 0; rw [ih]; rfl
  | succ n ih =>
    show fs (fun f => fs (fun i => g i f) n + g n f) F = fs (fun i => fs (fun f => g i f) F) n + fs (fun f => g n f) F
    rw [fs_plus, ih]
section
variable {n F : Nat} {w r : Nat → Nat} {m : Nat → Nat → Bool}
def cutX (n F : Nat) (w r : Nat → Nat) (m : Nat → Nat → Bool) (A : Nat) : Nat := fs (fun i => if A.testBit i = true then r i else 0) n + fs (fun f => min (w f) (cnt (fun i => m i f && !A.testBit i) n)) F
def misB (F : Nat) (w : Nat → Nat) (B : Nat) : Nat := fs (fun f => if B.testBit f = true then w f else 0) F
def rooB (n F : Nat) (r : Nat → Nat) (m : Nat → Nat → Bool) (B : Nat) : Nat := fs (fun i => min (r i) (cnt (fun f => B.testBit f && m i f) F)) n
theorem cut_sw {a b : Nat → Bool} : fs (fun f => if b f = true then cnt (fun i => m i f && !a i) n else 0) F = fs (fun i => if a i = true then 0 else cnt (fun f => b f && m i f) F) n := by
  have e1 : fs (fun f => if b f = true then cnt (fun i => m i f && !a i) n else 0) F = fs (fun f => fs (fun i => if (b f && (m i f && !a i)) = true then 1 else 0) n) F := fs_cg fun f _ => by
    by_cases c : b f = true
    · rw [if_pos c]
      exact fs_cg fun i _ => by rw [c, Bool.true_and]
    · rw [if_neg c]
      have c' : b f = false := by simpa using c
      have : fs (fun i => if (b f && (m i f && !a i)) = true then 1 else 0) n ≤ n * 0 := fs_le fun i _ => by rw [c', Bool.false_and, if_neg (by decide)]; exact Nat.le_refl _
      omega
  rw [e1, fs_swap]
  refine fs_cg fun i _ => ?_
  by_cases c : a i = true
  · rw [if_pos c]
    have : fs (fun f => if (b f && (m i f && !a i)) = true then 1 else 0) F ≤ F * 0 := fs_le fun f _ => by rw [c, Bool.not_true, Bool.and_false, Bool.and_false, if_neg (by decide)]; exact Nat.le_refl _
    omega
  · rw [if_neg c]
    have c' : a i = false := by simpa using c
    exact fs_cg fun f _ => by rw [c', Bool.not_false, Bool.and_true]
theorem fo_pick {q : Nat → Bool} {k : Nat} (hk : k < n) : (fo (fun i => if q i = true then 2 ^ i else 0) n).testBit k = q k := by
  have := fo_pbit (q := q) (n := n) (k := k)
  cases hq : q k with
  | true => rw [this]; exact ⟨hk, hq⟩
  | false =>
    cases hx : (fo (fun i => if q i = true then 2 ^ i else 0) n).testBit k with
    | true => rw [(this.mp hx).2] at hq; exact absurd hq (by decide)
    | false => rfl
theorem fo_plt {q : Nat → Bool} : fo (fun i => if q i = true then 2 ^ i else 0) n < 2 ^ n := fo_lt fun i hi => by
  by_cases c : q i = true
  · rw [if_pos c]; exact Nat.pow_lt_pow_right (by decide) hi
  · rw [if_neg c]; exact Nat.two_pow_pos n
theorem cut_xm (X : ∀ A, A < 2 ^ n → fs w F ≤ cutX n F w r m A) (B : Nat) : misB F w B ≤ rooB n F r m B := by
  generalize hA : fo (fun i => if (fun i => decide (r i ≤ cnt (fun f => B.testBit f && m i f) F)) i = true then 2 ^ i else 0) n = A
  have hA1 : ∀ i, i < n → A.testBit i = decide (r i ≤ cnt (fun f => B.testBit f && m i f) F) := fun i hi => by rw [← hA]; exact fo_pick (q := fun i => decide (r i ≤ cnt (fun f => B.testBit f && m i f) F)) hi
  have x := X A (by rw [← hA]; exact fo_plt)
  unfold cutX at x
  have e1 : fs w F = misB F w B + fs (fun f => if B.testBit f = true then 0 else w f) F := by
    unfold misB
    rw [← fs_plus]
    exact fs_cg fun f _ => by by_cases c : B.testBit f = true <;> simp [c]
  have e2 : fs (fun f => min (w f) (cnt (fun i => m i f && !A.testBit i) n)) F ≤ fs (fun f => if B.testBit f = true then cnt (fun i => m i f && !A.testBit i) n else 0) F + fs (fun f => if B.testBit f = true then 0 else w f) F := by
    rw [← fs_plus]
    exact fs_mono fun f _ => by by_cases c : B.testBit f = true <;> simp [c] <;> omega
  have e3 := cut_sw (n := n) (F := F) (m := m) (a := fun i => A.testBit i) (b := fun f => B.testBit f)
  have e4 : fs (fun i => if A.testBit i = true then r i else 0) n + fs (fun i => if A.testBit i = true then 0 else cnt (fun f => B.testBit f && m i f) F) n = rooB n F r m B := by
    unfold rooB
    rw [← fs_plus]
    refine fs_cg fun i hi => ?_
    rw [hA1 i hi]
    by_cases c : r i ≤ cnt (fun f => B.testBit f && m i f) F
    · simp [c]
    · simp [c]; omega
  omega
theorem cut_mx (M : ∀ B, B < 2 ^ F → misB F w B ≤ rooB n F r m B) (A : Nat) : fs w F ≤ cutX n F w r m A := by
  generalize hB : fo (fun f => if (fun f => decide (cnt (fun i => m i f && !A.testBit i) n < w f)) f = true then 2 ^ f else 0) F = B
  have hB1 : ∀ f, f < F → B.testBit f = decide (cnt (fun i => m i f && !A.testBit i) n < w f) := fun f hf => by rw [← hB]; exact fo_pick (q := fun f => decide (cnt (fun i => m i f && !A.testBit i) n < w f)) hf
  have x := M B (by rw [← hB]; exact fo_plt)
  unfold cutX
  have e1 : fs w F = misB F w B + fs (fun f => if B.testBit f = true then 0 else w f) F := by
    unfold misB
    rw [← fs_plus]
    exact fs_cg fun f _ => by by_cases c : B.testBit f = true <;> simp [c]
  have e2 : fs (fun f => min (w f) (cnt (fun i => m i f && !A.testBit i) n)) F = fs (fun f => if B.testBit f = true then cnt (fun i => m i f && !A.testBit i) n else 0) F + fs (fun f => if B.testBit f = true then 0 else w f) F := by
    rw [← fs_plus]
    refine fs_cg fun f hf => ?_
    rw [hB1 f hf]
    by_cases c : cnt (fun i => m i f && !A.testBit i) n < w f
    · simp [c]; omega
    · simp [c]; omega
  have e3 := cut_sw (n := n) (F := F) (m := m) (a := fun i => A.testBit i) (b := fun f => B.testBit f)
  have e4 : rooB n F r m B ≤ fs (fun i => if A.testBit i = true then r i else 0) n + fs (fun i => if A.testBit i = true then 0 else cnt (fun f => B.testBit f && m i f) F) n := by
    unfold rooB
    rw [← fs_plus]
    exact fs_mono fun i _ => by by_cases c : A.testBit i = true <;> simp [c] <;> omega
  omega
end
section
variable {h : gz_H} {T : gz_T} {E : gz_D}
def hcN (T : gz_T) (E : gz_D) (f : Nat) : Nat := cnt (fun i => decide (f ∈ (E i).1)) T.2.1
def waN (T : gz_T) (E : gz_D) (f : Nat) : Nat := 2 - hcN T E f
def roN (T : gz_T) (E : gz_D) (i : Nat) : Nat := if (E i).2 = true then 0 else T.2.2.2.2.1 i - (E i).1.length
def mmN (E : gz_D) (i f : Nat) : Bool := !(E i).2 && !decide (f ∈ (E i).1)
def hoS (T : gz_T) (E : gz_D) (f : Nat) : Nat := fo (fun i => if f ∈ (E i).1 then 2 ^ i else 0) T.2.1
def tkS (T : gz_T) (E : gz_D) (f : Nat) : Nat := sd (alv E T.2.1) (hoS T E f)
theorem hoS_e {f : Nat} : hoS T E f = fo (fun i => if (fun i => decide (f ∈ (E i).1)) i = true then 2 ^ i else 0) T.2.1 := fo_cg fun i _ => by by_cases c : f ∈ (E i).1 <;> simp [c]
theorem hoS_pc (hG : T.2.1 ≤ 8) {f : Nat} : pc (hoS T E f) = hcN T E f := by rw [hoS_e]; exact pc_fo hG
theorem hoS_lt {f : Nat} : hoS T E f < 2 ^ T.2.1 := by rw [hoS_e]; exact fo_plt
theorem tkS_lt {f : Nat} : tkS T E f < 2 ^ T.2.1 := sd_lt (by unfold alv; exact fo_plt)
theorem tkS_pc (hG : T.2.1 ≤ 8) {f A : Nat} : pc (sd (tkS T E f) A) = cnt (fun i => mmN E i f && !A.testBit i) T.2.1 := by
  rw [pc_cnt hG (sd_lt tkS_lt)]
  refine cnt_cg fun i hi => ?_
  unfold tkS mmN
  rw [sd_bit, sd_bit, hoS_e, fo_pick (q := fun i => decide (f ∈ (E i).1)) hi]
  unfold alv
  rw [fo_pick (q := fun i => !(E i).2) hi]
theorem mx2 : ∀ c : Fin 9, gz_mx (0 : Int32) ((2 : Int32) - nI c.1) = nI (2 - c.1) := by decide +kernel
theorem ro_le (w : wsT T) {i : Nat} (hi : i < T.2.1) : roN T E i ≤ 8 := by
  unfold roN
  have := (w.bi i hi).2.2.1
  by_cases c : (E i).2 = true
  · rw [if_pos c]; omega
  · rw [if_neg c]; omega
theorem x_roomOf (V : XV h T E) {A : Nat} (hA : A < 256) : fX1_roomOf 28 (nI A) h = some (nI (fs (fun i => if A.testBit i = true then roN T E i else 0) T.2.1), h) := by
  have H := V.H
  have b := V.b
  unfold fX1_roomOf fX1_roomOf_0
  have hfu : T.2.1 < 0 + gz_fu := by show T.2.1 < 0 + 100000; omega
  generalize gz_fu = fu at hfu ⊢
  refine lp (fun m i (y : Int32) => fX1_roomOf_4 m 28 (nI A) y (nI i) h) (fun k => nI (fs (fun i => if A.testBit i = true then roN T E i else 0) k)) T.2.1 _ ?_ ?_ fu 0 (by omega) hfu
  · intro m
    rw [fX1_roomOf_4, ck_t (sh_28 H), V.n, if_pos (nI_le (Nat.le_refl _) (by omega))]
  · intro m i hi
    have eb : ((nI A >>> (nI i &&& 31)) &&& (1 : Int32)) = nI (if A.testBit i then 1 else 0) := nI_bit (by omega) (by omega)
    have es : fs (fun i => if A.testBit i = true then roN T E i else 0) (i + 1) = fs (fun i => if A.testBit i = true then roN T E i else 0) i + (if A.testBit i = true then roN T E i else 0) := rfl
    have er : fX2_room (31 + 2 * i) h = some (nI (roN T E i), h) := x_room V hi
    rw [fX1_roomOf_4, ck_t (sh_28 H), V.n, if_neg (nI_ge hi (by omega)), eb, es]
    unfold fX1_roomOf_32
    rw [nI_1]
    by_cases c : A.testBit i = true
    · rw [if_pos c, if_neg (by decide), rf_28_1 H, br_s, ck_t (in_30 H (by omega)), nI_clamp (by omega), rf_30 H (by omega), br_s, ck_t (sgk_31 H (by omega)), er, b2_s, nI_add, if_pos c]
    · rw [if_neg c, if_pos (by decide), if_neg c]
      rfl
theorem x_cutBy (V : XV h T E) {A : Nat} (hA : A < 256) (c77 : ∀ f, f < T.1 → h.2.1 77 f = nI (waN T E f)) (c78 : ∀ f, f < T.1 → h.2.1 78 f = nI (tkS T E f)) : fX8_cutBy 0 (nI A) h = some (nI (cutX T.2.1 T.1 (waN T E) (roN T E) (mmN E) A), h) := by
  have H := V.H
  have b := V.b
  have p2 := p2_lt (k := T.2.1) (by omega)
  unfold fX8_cutBy fX8_cutBy_0 cutX
  rw [ck_t (sh_0 H), rf_0_9 H, br_s, ck_t (sh_28 H), x_roomOf V hA, b2_s]
  generalize fs (fun i => if A.testBit i = true then roN T E i else 0) T.2.1 = R
  have hfu : T.1 < 0 + gz_fu := by show T.1 < 0 + 100000; omega
  generalize gz_fu = fu at hfu ⊢
  have e0 : nI R = nI (R + fs (fun f => min (waN T E f) (cnt (fun i => mmN E i f && !A.testBit i) T.2.1)) 0) := rfl
  rw [e0]
  refine lp (fun m f (y : Int32) => fX8_cutBy_11 m 0 (nI A) y (nI f) h) (fun k => nI (R + fs (fun f => min (waN T E f) (cnt (fun i => mmN E i f && !A.testBit i) T.2.1)) k)) T.1 _ ?_ ?_ fu 0 (by omega) hfu
  · intro m
    rw [fX8_cutBy_11, ck_t (sh_0 H), rf_0_9 H, br_s, ck_t (sh_28 H), V.f, if_pos (nI_le (Nat.le_refl _) (by omega))]
  · intro m f hf
    have es : fs (fun f => min (waN T E f) (cnt (fun i => mmN E i f && !A.testBit i) T.2.1)) (f + 1) = fs (fun f => min (waN T E f) (cnt (fun i => mmN E i f && !A.testBit i) T.2.1)) f + min (waN T E f) (cnt (fun i => mmN E i f && !A.testBit i) T.2.1) := rfl
    have t8 : sd (tkS T E f) A < 256 := Nat.lt_of_lt_of_le (sd_lt tkS_lt) (by omega)
    have cl : cnt (fun i => mmN E i f && !A.testBit i) T.2.1 ≤ T.2.1 := cnt_le _ _
    have wl : waN T E f ≤ 2 := by unfold waN; omega
    have mn : gz_mn2 (nI (waN T E f)) (nI (cnt (fun i => mmN E i f && !A.testBit i) T.2.1)) = nI (min (waN T E f) (cnt (fun i => mmN E i f && !A.testBit i) T.2.1)) := by
      unfold gz_mn2
      by_cases c : cnt (fun i => mmN E i f && !A.testBit i) T.2.1 < waN T E f
      · rw [if_pos (nI_lt c (by omega)), Nat.min_eq_right (by omega)]
      · rw [if_neg (nI_nlt (by omega) (by omega)), Nat.min_eq_left (by omega)]
    rw [fX8_cutBy_11, ck_t (sh_0 H), rf_0_9 H, br_s, ck_t (sh_28 H), V.f, if_neg (nI_ge hf (by omega)), rf_0_16 H, br_s, ck_t (in_77 H (by omega)), rf_0_17 H, br_s, ck_t (in_78 H (by omega)), nI_clamp (by omega), c78 f hf, nI_nand, t_bc t8, b2_s, tkS_pc (by omega), c77 f hf, mn, nI_add, nI_1, es, Nat.add_assoc]
theorem x_safeL (V : XV h T E) : ∃ h', sc h h' ∧ fX8_safe_17 gz_fu 0 (0 : Int32) (0 : Int32) h = fX8_safe_87 gz_fu 0 (nI (fs (waN T E) T.1)) (0 : Int32) h' ∧ (∀ f, f < T.1 → h'.2.1 77 f = nI (waN T E f)) ∧ ∀ f, f < T.1 → h'.2.1 78 f = nI (tkS T E f) := by
  have b := V.b
  have p2 := p2_lt (k := T.2.1) (by omega)
  have hfu : T.1 < 0 + gz_fu := by show T.1 < 0 + 100000; omega
  generalize ef : gz_fu = fu at hfu
  refine lpr (fun m f (q : gz_H) => fX8_safe_17 m 0 (nI (fs (waN T E) f)) (nI f) q) (fun f q => sc h q ∧ (∀ f', f' < f → q.2.1 77 f' = nI (waN T E f')) ∧ ∀ f', f' < f → q.2.1 78 f' = nI (tkS T E f')) T.1 (fun x => ∃ h', sc h h' ∧ x = fX8_safe_87 fu 0 (nI (fs (waN T E) T.1)) (0 : Int32) h' ∧ (∀ f, f < T.1 → h'.2.1 77 f = nI (waN T E f)) ∧ ∀ f, f < T.1 → h'.2.1 78 f = nI (tkS T E f)) ?_ ?_ fu 0 h (by omega) hfu ⟨sc.rf, fun f hf => absurd hf (by omega), fun f hf => absurd hf (by omega)⟩
  · rintro m q ⟨q1, q2, q3⟩
    have Vq := V.sc q1
    have Hq := Vq.H
    refine ⟨q, q1, ?_, q2, q3⟩
    rw [fX8_safe_17, ck_t (sh_0 Hq), rf_0_9 Hq, br_s, ck_t (sh_28 Hq), Vq.f, if_pos (nI_le (Nat.le_refl _) (by omega)), ef]
  · rintro m f q hf ⟨q1, q2, q3⟩
    have Vq := V.sc q1
    have Hq := Vq.H
    have eh : fX1_holdersOf 28 (nI f) q = some (nI (hoS T E f), q) := x_holdersOf Vq (by omega)
    have h8 : hoS T E f < 256 := Nat.lt_of_lt_of_le hoS_lt (by omega)
    have hl : hcN T E f ≤ T.2.1 := cnt_le _ _
    have mx : gz_mx (0 : Int32) ((2 : Int32) - nI (hcN T E f)) = nI (waN T E f) := mx2 ⟨hcN T E f, by omega⟩
    have s1 : sc q (uI q 77 f (nI (waN T E f))) := sc.uI (by unfold scr; omega)
    have V1 := Vq.sc s1
    have H1 := V1.H
    have s2 : sc (uI q 77 f (nI (waN T E f))) (uI (uI q 77 f (nI (waN T E f))) 78 f (nI (tkS T E f))) := sc.uI (by unfold scr; omega)
    have H2 := (V1.sc s2).H
    have es : fs (waN T E) (f + 1) = fs (waN T E) f + waN T E f := rfl
    refine ⟨uI (uI q 77 f (nI (waN T E f))) 78 f (nI (tkS T E f)), ⟨q1.tr (s1.tr s2), fun f' hf' => ?_, fun f' hf' => ?_⟩, ?_⟩
    · rw [uI_ne (by omega)]
      by_cases c : f' = f
      · rw [c, uI_at]
      · rw [uI_ne (by omega)]; exact q2 f' (by omega)
    · by_cases c : f' = f
      · rw [c, uI_at]
      · rw [uI_ne (by omega), uI_ne (by omega)]; exact q3 f' (by omega)
    · rw [fX8_safe_17, ck_t (sh_0 Hq), rf_0_9 Hq, br_s, ck_t (sh_28 Hq), Vq.f, if_neg (nI_ge hf (by omega)), eh, b2_s, ck_t (sh_0 Hq), rf_0_16 Hq, br_s, t_bc h8, b2_s, hoS_pc (by omega), mx, ck_t (in_77 Hq (by omega)), nI_clamp (by omega), lt_d, ck_t (sh_0 H1), rf_0_17 H1, br_s, rf_0_9 H1, br_s, ck_t (sh_28 H1), x_aliveSet V1, b2_s, ck_t (in_78 H1 (by omega)), nI_nand, lt_d, show sd (alv E T.2.1) (hoS T E f) = tkS T E f from rfl, ck_t (sh_0 H2), rf_0_16 H2, br_s, ck_t (in_77 H2 (by omega)), uI_ne (by omega), uI_at, nI_add, nI_1, es]
theorem x_safe87 (V : XV h T E) (c77 : ∀ f, f < T.1 → h.2.1 77 f = nI (waN T E f)) (c78 : ∀ f, f < T.1 → h.2.1 78 f = nI (tkS T E f)) : (∀ A, A < 2 ^ T.2.1 → ¬ cutX T.2.1 T.1 (waN T E) (roN T E) (mmN E) A < fs (waN T E) T.1) ∧ fX8_safe_87 gz_fu 0 (nI (fs (waN T E) T.1)) (0 : Int32) h = some (nI (fs (waN T E) T.1), h) ∨ (∃ A, A < 2 ^ T.2.1 ∧ cutX T.2.1 T.1 (waN T E) (roN T E) (mmN E) A < fs (waN T E) T.1) ∧ fX8_safe_87 gz_fu 0 (nI (fs (waN T E) T.1)) (0 : Int32) h = some (-9, h) := by
  have H := V.H
  have b := V.b
  have p2 := p2_lt (k := T.2.1) (by omega)
  have e9 : (1 : Int32) <<< (nI T.2.1 &&& 31) = nI (2 ^ T.2.1) := nI_shl (by omega)
  have wl : fs (waN T E) T.1 ≤ T.1 * 2 := fs_le fun f _ => by unfold waN; omega
  have cl : ∀ A, cutX T.2.1 T.1 (waN T E) (roN T E) (mmN E) A ≤ T.2.1 * 8 + T.1 * 2 := fun A => Nat.add_le_add (fs_le fun i hi => by
    have := ro_le (E := E) V.2.1 hi
    by_cases c : A.testBit i = true
    · rw [if_pos c]; exact this
    · rw [if_neg c]; omega) (fs_le fun f _ => Nat.le_trans (Nat.min_le_left _ _) (by unfold waN; omega))
  have step : ∀ m A, A < 2 ^ T.2.1 → ¬ cutX T.2.1 T.1 (waN T E) (roN T E) (mmN E) A < fs (waN T E) T.1 → fX8_safe_87 (m + 1) 0 (nI (fs (waN T E) T.1)) (nI A) h = fX8_safe_87 m 0 (nI (fs (waN T E) T.1)) (nI (A + 1)) h := by
    intro m A hA ok
    have := cl A
    rw [fX8_safe_87, ck_t (sh_0 H), rf_0_9 H, br_s, ck_t (sh_28 H), V.n, e9, if_neg (nI_ge hA (by omega)), x_cutBy V (by omega) c77 c78, b2_s, if_pos (nI_le (by omega) (by omega)), nI_1]
  rcases fst_bad (fun A => cutX T.2.1 T.1 (waN T E) (roN T E) (mmN E) A < fs (waN T E) T.1) (2 ^ T.2.1) with ok | ⟨A, hA, bad, ok⟩
  · refine Or.inl ⟨ok, ?_⟩
    have hfu : 2 ^ T.2.1 < 0 + gz_fu := by show 2 ^ T.2.1 < 0 + 100000; omega
    generalize gz_fu = fu at hfu ⊢
    refine lp (fun m A (_ : Unit) => fX8_safe_87 m 0 (nI (fs (waN T E) T.1)) (nI A) h) (fun _ => ()) (2 ^ T.2.1) _ ?_ ?_ fu 0 (by omega) hfu
    · intro m
      rw [fX8_safe_87, ck_t (sh_0 H), rf_0_9 H, br_s, ck_t (sh_28 H), V.n, e9, if_pos (nI_le (Nat.le_refl _) (by omega))]
    · intro m A hA
      exact step m A hA (ok A hA)
  · refine Or.inr ⟨⟨A, hA, bad⟩, ?_⟩
    have hfu : A < 0 + gz_fu := by show A < 0 + 100000; omega
    generalize gz_fu = fu at hfu ⊢
    refine lp (fun m A (_ : Unit) => fX8_safe_87 m 0 (nI (fs (waN T E) T.1)) (nI A) h) (fun _ => ()) A _ ?_ ?_ fu 0 (by omega) hfu
    · intro m
      have := cl A
      rw [fX8_safe_87, ck_t (sh_0 H), rf_0_9 H, br_s, ck_t (sh_28 H), V.n, e9, if_neg (nI_ge hA (by omega)), x_cutBy V (by omega) c77 c78, b2_s, if_neg (nI_ge (by omega) (by omega))]
    · intro m A' hA'
      exact step m A' (by omega) (ok A' hA')
theorem m_holdersOf (V : MV h T E) {f : Nat} (hf : f < 8) : fX9_holdersOf 85 (nI f) h = some (nI (hcN T E f), h) := by
  have H := V.H
  have b := V.b
  unfold fX9_holdersOf fX9_holdersOf_0
  have hfu : T.2.1 < 0 + gz_fu := by show T.2.1 < 0 + 100000; omega
  generalize gz_fu = fu at hfu ⊢
  refine lp (fun m i (y : Int32) => fX9_holdersOf_4 m 85 (nI f) y (nI i) h) (fun k => nI (cnt (fun i => decide (f ∈ (E i).1)) k)) T.2.1 _ ?_ ?_ fu 0 (by omega) hfu
  · intro m
    rw [fX9_holdersOf_4, ck_t (sh_85 H), V.n, if_pos (nI_le (Nat.le_refl _) (by omega))]
    rfl
  · intro m i hi
    have h8 := hs8 V.2.1 V.2.2.1 hi
    have eb : ((nI (hs (E i).1) >>> (nI f &&& 31)) &&& (1 : Int32)) = nI (if (hs (E i).1).testBit f then 1 else 0) := nI_bit (by omega) (by omega)
    have es : cnt (fun i => decide (f ∈ (E i).1)) (i + 1) = cnt (fun i => decide (f ∈ (E i).1)) i + (if (decide (f ∈ (E i).1)) = true then 1 else 0) := rfl
    rw [fX9_holdersOf_4, ck_t (sh_85 H), V.n, if_neg (nI_ge hi (by omega)), m_heldBy V hi, b2_s, eb, nI_add, nI_1, es]
    by_cases c : f ∈ (E i).1
    · rw [if_pos (hs_bit.mpr c), if_pos (decide_eq_true c)]
    · rw [if_neg (fun z => c (hs_bit.mp z)), if_neg (by simpa using c)]
theorem m_missing (V : MV h T E) {B : Nat} (hB : B < 256) : fX9_missing 85 (nI B) h = some (nI (misB T.1 (waN T E) B), h) := by
  have H := V.H
  have b := V.b
  unfold fX9_missing fX9_missing_0
  have hfu : T.1 < 0 + gz_fu := by show T.1 < 0 + 100000; omega
  generalize gz_fu = fu at hfu ⊢
  refine lp (fun m f (y : Int32) => fX9_missing_4 m 85 (nI B) y (nI f) h) (fun k => nI (fs (fun f => if B.testBit f = true then waN T E f else 0) k)) T.1 _ ?_ ?_ fu 0 (by omega) hfu
  · intro m
    rw [fX9_missing_4, ck_t (sh_85 H), V.f, if_pos (nI_le (Nat.le_refl _) (by omega))]
    rfl
  · intro m f hf
    have hl : hcN T E f ≤ T.2.1 := cnt_le _ _
    have eb : fX9_has (nI B) (nI f) h = some (nI (if B.testBit f then 1 else 0), h) := t_has (by omega) (by omega)
    have es : fs (fun f => if B.testBit f = true then waN T E f else 0) (f + 1) = fs (fun f => if B.testBit f = true then waN T E f else 0) f + (if B.testBit f = true then waN T E f else 0) := rfl
    rw [fX9_missing_4, ck_t (sh_85 H), V.f, if_neg (nI_ge hf (by omega)), m_holdersOf V (by omega), b2_s, eb, b2_s, es]
    unfold fX9_missing_41 fX9_missing_42
    rw [nI_1]
    by_cases c : B.testBit f = true
    · rw [if_pos c, if_neg (by decide), if_pos c]
      unfold waN
      by_cases d : 2 ≤ hcN T E f
      · rw [if_pos (show (2 : Int32) ≤ nI (hcN T E f) from nI_le (a := 2) d (by omega)), show (0 : Int32) = nI 0 from rfl, nI_add, show 2 - hcN T E f = 0 by omega]
      · rw [if_neg (show ¬ (2 : Int32) ≤ nI (hcN T E f) from nI_ge (b := 2) (by omega) (by decide)), show (2 : Int32) = nI 2 from rfl, pk_sub (by omega), nI_add]
    · rw [if_neg c, if_pos (by decide), show (0 : Int32) = nI 0 from rfl, nI_add, if_neg c]
theorem m_roomB (V : MV h T E) {B : Nat} (hB : B < 2 ^ T.1) : fX9_room 85 (nI B) h = some (nI (rooB T.2.1 T.1 (roN T E) (mmN E) B), h) := by
  have H := V.H
  have b := V.b
  have p1 := p2_lt b.1
  unfold fX9_room fX9_room_0
  have hfu : T.2.1 < 0 + gz_fu := by show T.2.1 < 0 + 100000; omega
  generalize gz_fu = fu at hfu ⊢
  refine lp (fun m i (y : Int32) => fX9_room_4 m 85 (nI B) y (nI i) h) (fun k => nI (fs (fun i => min (roN T E i) (cnt (fun f => B.testBit f && mmN E i f) T.1)) k)) T.2.1 _ ?_ ?_ fu 0 (by omega) hfu
  · intro m
    rw [fX9_room_4, ck_t (sh_85 H), V.n, if_pos (nI_le (Nat.le_refl _) (by omega))]
    rfl
  · intro m i hi
    have wb := V.2.1.bi i hi
    have dl := (V.2.2.1 i hi).1
    have es : fs (fun i => min (roN T E i) (cnt (fun f => B.testBit f && mmN E i f) T.1)) (i + 1) = fs (fun i => min (roN T E i) (cnt (fun f => B.testBit f && mmN E i f) T.1)) i + min (roN T E i) (cnt (fun f => B.testBit f && mmN E i f) T.1) := rfl
    have s8 : sd B (hs (E i).1) < 2 ^ T.1 := sd_lt hB
    have pcl := pc_le (sd B (hs (E i).1))
    have mn : h.2.1 86 (2 + i) = nI (E i).1.length := V.mn i hi
    rw [fX9_room_4, ck_t (sh_85 H), V.n, if_neg (nI_ge hi (by omega)), rf_85_5 H, br_s, ck_t (in_89 H (by omega)), rf_85_0 H, br_s, show (2 : Int32) = nI 2 from rfl, nI_add, ck_t (in_86 H (by omega)), nI_clamp (by omega), nI_clamp (by omega), V.mo i hi, mn, pk_sub dl, lt_d, m_heldBy V hi, b2_s, nI_nand, t_bits (by omega), b2_s, ck_t (sh_85 H), m_isGone V hi, b2_s, es]
    unfold fX9_room_70
    rw [nI_1]
    by_cases c : (E i).2 = true
    · rw [if_pos c, if_neg (by decide), show (0 : Int32) = nI 0 from rfl, nI_add, show roN T E i = 0 from if_pos c, Nat.zero_min]
    · have c' : (E i).2 = false := by simpa using c
      have er : roN T E i = T.2.2.2.2.1 i - (E i).1.length := if_neg c
      have ep : pc (sd B (hs (E i).1)) = cnt (fun f => B.testBit f && mmN E i f) T.1 := by
        rw [pc_cnt b.1 s8]
        refine cnt_cg fun f _ => ?_
        unfold mmN
        rw [sd_bit, c', Bool.not_false, Bool.true_and]
        congr 2
        cases hq : (hs (E i).1).testBit f with
        | true => exact (decide_eq_true (hs_bit.mp hq)).symm
        | false => exact (decide_eq_false (fun z => by rw [hs_bit.mpr z] at hq; exact absurd hq (by decide))).symm
      rw [if_neg c, if_pos (by decide), er, ← ep]
      by_cases d : pc (sd B (hs (E i).1)) ≤ T.2.2.2.2.1 i - (E i).1.length
      · rw [if_pos (nI_le d (by omega)), nI_add, Nat.min_eq_right d]
      · rw [if_neg (nI_ge (by omega) (by omega)), nI_add, Nat.min_eq_left (by omega)]
theorem mis_all : misB T.1 (waN T E) (2 ^ T.1 - 1) = fs (waN T E) T.1 := fs_cg fun f hf => by rw [ones_bit hf, if_pos rfl]
theorem m_safe12 (V : MV h T E) : (∀ B, B < 2 ^ T.1 → ¬ rooB T.2.1 T.1 (roN T E) (mmN E) B < misB T.1 (waN T E) B) ∧ fX9_safe_12 gz_fu 85 (0 : Int32) h = some (nI (fs (waN T E) T.1), h) ∨ (∃ B, B < 2 ^ T.1 ∧ rooB T.2.1 T.1 (roN T E) (mmN E) B < misB T.1 (waN T E) B) ∧ fX9_safe_12 gz_fu 85 (0 : Int32) h = some (-9, h) := by
  have H := V.H
  have b := V.b
  have p1 := p2_lt b.1
  have ml : ∀ B, misB T.1 (waN T E) B ≤ T.1 * 2 := fun B => fs_le fun f _ => by
    have : waN T E f ≤ 2 := by unfold waN; omega
    by_cases c : B.testBit f = true
    · rw [if_pos c]; exact this
    · rw [if_neg c]; omega
  have rl : ∀ B, rooB T.2.1 T.1 (roN T E) (mmN E) B ≤ T.2.1 * 8 := fun B => fs_le fun i hi => Nat.le_trans (Nat.min_le_left _ _) (ro_le V.2.1 hi)
  have step : ∀ m B, B < 2 ^ T.1 → ¬ rooB T.2.1 T.1 (roN T E) (mmN E) B < misB T.1 (waN T E) B → fX9_safe_12 (m + 1) 85 (nI B) h = fX9_safe_12 m 85 (nI (B + 1)) h := by
    intro m B hB ok
    have := ml B
    have := rl B
    rw [fX9_safe_12, ck_t (sh_85 H), m_all V, b2_s, if_neg (nI_nlt (by omega) (by omega)), ck_t (sh_85 H), m_missing V (by omega), b2_s, ck_t (sh_85 H), m_roomB V hB, b2_s, if_pos (nI_le (by omega) (by omega)), nI_1]
  rcases fst_bad (fun B => rooB T.2.1 T.1 (roN T E) (mmN E) B < misB T.1 (waN T E) B) (2 ^ T.1) with ok | ⟨B, hB, bad, ok⟩
  · refine Or.inl ⟨ok, ?_⟩
    have hfu : 2 ^ T.1 < 0 + gz_fu := by show 2 ^ T.1 < 0 + 100000; omega
    generalize gz_fu = fu at hfu ⊢
    refine lp (fun m B (_ : Unit) => fX9_safe_12 m 85 (nI B) h) (fun _ => ()) (2 ^ T.1) _ ?_ ?_ fu 0 (by omega) hfu
    · intro m
      rw [fX9_safe_12, ck_t (sh_85 H), m_all V, b2_s, if_pos (nI_lt (by omega) (by omega)), ck_t (sh_85 H), m_all V, b2_s, ck_t (sh_85 H), m_missing V (by omega), b2_s, mis_all]
    · intro m B hB
      exact step m B hB (ok B hB)
  · refine Or.inr ⟨⟨B, hB, bad⟩, ?_⟩
    have hfu : B < 0 + gz_fu := by show B < 0 + 100000; omega
    generalize gz_fu = fu at hfu ⊢
    refine lp (fun m B (_ : Unit) => fX9_safe_12 m 85 (nI B) h) (fun _ => ()) B _ ?_ ?_ fu 0 (by omega) hfu
    · intro m
      have := ml B
      have := rl B
      rw [fX9_safe_12, ck_t (sh_85 H), m_all V, b2_s, if_neg (nI_nlt (by omega) (by omega)), ck_t (sh_85 H), m_missing V (by omega), b2_s, ck_t (sh_85 H), m_roomB V hB, b2_s, if_neg (nI_ge (by omega) (by omega))]
    · intro m B' hB'
      exact step m B' (by omega) (ok B' hB')
theorem op_safe (I : gz_Iv h) : gz_ag (fX8_safe 0) (fX9_safe 85) h gz_Iv := by
  obtain ⟨T, D, ds, ks, sa, F⟩ := I.2
  have V := F.xv I.1.1
  have W := F.mv I.1.1
  have H := V.H
  have w := V.2.1
  have b := V.b
  by_cases z : T.2.1 = 0
  · refine ag_no I (y := -4) ?_ ?_
    · unfold fX8_safe fX8_safe_0 fX1_hasGeese fX1_hasGeese_0
      rw [ck_t (sh_0 H), rf_0_9 H, br_s, ck_t (sh_28 H), ck_t (sh_28 H), V.n, z, if_pos (by decide), b2_s, if_pos (by decide)]
    · unfold fX9_safe fX9_safe_0
      rw [ck_t (sh_85 H), W.n, z, if_pos (by decide)]
  · have z' : ¬ T.1 = 0 := fun q => z (w.2.2.1.mp q)
    obtain ⟨h1, s1, e1, c77, c78⟩ := x_safeL V
    have X : fX8_safe 0 h = fX8_safe_87 gz_fu 0 (nI (fs (waN T (rn T D ds)) T.1)) (0 : Int32) h1 := by
      unfold fX8_safe fX8_safe_0 fX1_hasGeese fX1_hasGeese_0
      rw [ck_t (sh_0 H), rf_0_9 H, br_s, ck_t (sh_28 H), ck_t (sh_28 H), V.n, if_neg (n_le0 (by omega) (by omega)), V.f, if_neg (n_le0 (by omega) (by omega)), b2_s, if_neg (by decide)]
      exact e1
    have W1 := W.sc s1
    have H1 := W1.H
    have M : fX9_safe 85 h1 = fX9_safe_12 gz_fu 85 (0 : Int32) h1 := by
      unfold fX9_safe fX9_safe_0
      rw [ck_t (sh_85 H1), W1.n, if_neg (fun q => z ((nI_z (by omega)).mp q))]
    rcases x_safe87 (V.sc s1) c77 c78 with ⟨x1, x2⟩ | ⟨⟨A, x0, x1⟩, x2⟩
    · rcases m_safe12 W1 with ⟨m1, m2⟩ | ⟨⟨B, m0, m1⟩, m2⟩
      · exact q_same I (v := nI (fs (waN T (rn T D ds)) T.1)) fun _ _ _ _ => ⟨h1, h1, X.trans x2, s1, M.trans m2, sc.rf⟩
      · have := cut_xm (n := T.2.1) (F := T.1) (w := waN T (rn T D ds)) (r := roN T (rn T D ds)) (m := mmN (rn T D ds)) (fun A hA => Nat.le_of_not_lt (x1 A hA)) B
        omega
    · rcases m_safe12 W1 with ⟨m1, m2⟩ | ⟨⟨B, m0, m1⟩, m2⟩
      · have := cut_mx (n := T.2.1) (F := T.1) (w := waN T (rn T D ds)) (r := roN T (rn T D ds)) (m := mmN (rn T D ds)) (fun B hB => Nat.le_of_not_lt (m1 B hB)) A
        omega
      · exact q_same I (v := -9) fun _ _ _ _ => ⟨h1, h1, X.trans x2, s1, M.trans m2, sc.rf⟩
end
