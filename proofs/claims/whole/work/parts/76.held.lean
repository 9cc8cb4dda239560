/-! PURE: held agrees: rows of facts, counted -/
theorem fs_split {g : Nat → Nat} {b : Nat} : ∀ a, fs g (a * b) = fs (fun u => fs (fun f => g (u * b + f)) b) a := by
  intro a
  induction a with
  | zero => rw [Nat.zero_mul]; rfl
  | succ a ih =>
    rw [Nat.add_mul, Nat.one_mul, fs_add, ih]
    rfl
theorem fs_plus {f g : Nat → Nat} : ∀ n, fs (fun i => f i + g i) n = fs f n + fs g n := by
  intro n
  induction n with
  | zero => rfl
  | succ n ih =>
    show fs (fun i => f i + g i) n + (f n + g n) = fs f n + f n + (fs g n + g n)
    rw [ih]; omega
/-- the v-th row of k facts out of F -/
def dg (F : Nat) : Nat → Nat → List Nat
  | 0, _ => []
  | k + 1, v => dg F k (v / F) ++ [v % F]
theorem dg_len (F : Nat) : ∀ k v, (dg F k v).length = k
  | 0, _ => rfl
  | k + 1, v => by rw [dg, List.length_append, dg_len F k]; rfl
theorem dg_mem {F : Nat} (hF : 0 < F) : ∀ {k v f : Nat}, f ∈ dg F k v → f < F
  | 0, _, f, h => by simp [dg] at h
  | k + 1, v, f, h => by
    rw [dg] at h
    rcases List.mem_append.mp h with q | q
    · exact dg_mem hF q
    · rw [List.mem_singleton.mp q]; exact Nat.mod_lt _ hF
/-- over all rows of k facts -/
def st (F k : Nat) (g : List Nat → Nat) : Nat := fs (fun v => g (dg F k v)) (F ^ k)
theorem st_succ {F : Nat} (hF : 0 < F) {k : Nat} {g : List Nat → Nat} : st F (k + 1) g = st F k (fun l => fs (fun f => g (l ++ [f])) F) := by
  unfold st
  rw [Nat.pow_succ, fs_split]
  refine fs_cg fun u _ => fs_cg fun f hf => ?_
  rw [dg, show (u * F + f) / F = u by rw [Nat.mul_comm, Nat.mul_add_div hF, Nat.div_eq_of_lt hf, Nat.add_zero], show (u * F + f) % F = f by rw [Nat.mul_comm, Nat.mul_add_mod, Nat.mod_eq_of_lt hf]]
theorem st_plus {F k : Nat} {f g : List Nat → Nat} : st F k (fun l => f l + g l) = st F k f + st F k g := fs_plus _
theorem st_cg {F k : Nat} {f g : List Nat → Nat} (e : ∀ l, f l = g l) : st F k f = st F k g := fs_cg fun v _ => e _
/-- rows that begin with l and go on with at most n more -/
def cx (F : Nat) (G : List Nat → Nat) : Nat → List Nat → Nat
  | 0, l => G l
  | n + 1, l => G l + fs (fun f => cx F G n (l ++ [f])) F
theorem st_cx {F : Nat} (hF : 0 < F) {G : List Nat → Nat} : ∀ n j, st F j (cx F G n) = fs (fun i => st F (j + i) G) (n + 1) := by
  intro n
  induction n with
  | zero => intro j; show st F j (fun l => G l) = 0 + st F (j + 0) G; rw [Nat.zero_add]; rfl
  | succ n ih =>
    intro j
    have e1 : st F j (cx F G (n + 1)) = st F j G + st F (j + 1) (cx F G n) := by
      rw [st_succ hF, ← st_plus]
      exact st_cg fun l => rfl
    have e3 := fs_add (g := fun i => st F (j + i) G) (a := 1) (n + 1)
    rw [e1, ih (j + 1), show n + 1 + 1 = 1 + (n + 1) by omega, e3]
    have e2 : fs (fun i => st F (j + i) G) 1 = st F j G := by show 0 + st F (j + 0) G = _; rw [Nat.zero_add, Nat.add_zero]
    rw [e2]
    congr 1
    exact fs_cg fun i _ => by rw [show j + 1 + i = j + (1 + i) by omega]
def Gd (good : List Nat → Bool) (l : List Nat) : Nat := if l.Nodup ∧ good l = true then 1 else 0
theorem cx_dup {F : Nat} {good : List Nat → Bool} : ∀ {n : Nat} {l : List Nat}, ¬ l.Nodup → cx F (Gd good) n l = 0 := by
  intro n
  induction n with
  | zero => intro l h; exact if_neg (fun z => h z.1)
  | succ n ih =>
    intro l h
    have e1 : Gd good l = 0 := if_neg (fun z => h z.1)
    have e2 : fs (fun f => cx F (Gd good) n (l ++ [f])) F = fs (fun _ => 0) F := fs_cg fun f _ => ih (fun z => h (List.nodup_append.mp z).1)
    have e3 : ∀ m, fs (fun _ => 0) m = 0 := by
      intro m
      induction m with
      | zero => rfl
      | succ m ih => show fs (fun _ => 0) m + 0 = 0; rw [ih]
    show Gd good l + fs (fun f => cx F (Gd good) n (l ++ [f])) F = 0
    rw [e1, e2, e3]
theorem cx_in {F n f : Nat} {good : List Nat → Bool} {l : List Nat} (h : f ∈ l) : cx F (Gd good) n (l ++ [f]) = 0 := cx_dup (fun z => (List.nodup_append.mp z).2.2 f h f (by simp) rfl)
theorem cx_le {F : Nat} (hF : F ≤ 8) {good : List Nat → Bool} : ∀ {n : Nat} {l : List Nat}, cx F (Gd good) n l ≤ 9 ^ n := by
  intro n
  have g1 : ∀ l, Gd good l ≤ 1 := fun l => by unfold Gd; by_cases c : l.Nodup ∧ good l = true <;> simp [c]
  induction n with
  | zero => intro l; exact g1 l
  | succ n ih =>
    intro l
    have e2 : fs (fun f => cx F (Gd good) n (l ++ [f])) F ≤ F * 9 ^ n := fs_le fun f _ => ih
    have e3 : F * 9 ^ n ≤ 8 * 9 ^ n := Nat.mul_le_mul_right _ hF
    have e4 : 0 < 9 ^ n := Nat.pow_pos (by decide)
    have := g1 l
    show Gd good l + fs (fun f => cx F (Gd good) n (l ++ [f])) F ≤ 9 ^ (n + 1)
    rw [Nat.pow_succ]
    omega
/-! which facts stand in a row -/
theorem pc_add {s b : Nat} (hb : b < 8) (hn : s.testBit b = false) : pc (s ||| 2 ^ b) = pc s + 1 := by
  have e : ∀ n, fs (fun k => if (s ||| 2 ^ b).testBit k = true then 1 else 0) n = fs (fun k => if s.testBit k = true then 1 else 0) n + (if b < n then 1 else 0) := by
    intro n
    induction n with
    | zero => rfl
    | succ n ih =>
      show fs _ n + (if (s ||| 2 ^ b).testBit n = true then 1 else 0) = fs _ n + (if s.testBit n = true then 1 else 0) + _
      rw [ih, Nat.testBit_or, Nat.testBit_two_pow]
      by_cases c : b = n
      · subst c
        simp [hn]
      · have : (b < n + 1) ↔ (b < n) := by omega
        simp [c, this]
        omega
  have := e 8
  rw [if_pos hb] at this
  exact this
theorem pc_same {s b : Nat} (hn : s.testBit b = true) : s ||| 2 ^ b = s := by
  apply bit_ext
  intro k
  rw [Nat.testBit_or, Nat.testBit_two_pow, Bool.or_eq_true]
  constructor
  · rintro (q | q)
    · exact q
    · rw [← of_decide_eq_true q]; exact hn
  · exact Or.inl
theorem hs_snoc {l : List Nat} {f : Nat} : hs (l ++ [f]) = hs l ||| 2 ^ f := by
  apply bit_ext
  intro k
  rw [hs_bit, Nat.testBit_or, Bool.or_eq_true, hs_bit, bit_p, List.mem_append, List.mem_singleton]
theorem nodup_snoc {l : List Nat} {f : Nat} : (l ++ [f]).Nodup ↔ l.Nodup ∧ f ∉ l :=
  ⟨fun z => ⟨(List.nodup_append.mp z).1, fun q => (List.nodup_append.mp z).2.2 f q f (by simp) rfl⟩, fun z => nodup_add z.1 z.2⟩
theorem pc_hs {l : List Nat} (hb : ∀ f ∈ l, f < 8) : ∀ k, k ≤ l.length → pc (hs (l.take k)) ≤ k ∧ (pc (hs (l.take k)) = k ↔ (l.take k).Nodup) := by
  intro k
  induction k with
  | zero => intro _; rw [List.take_zero]; exact ⟨by decide, ⟨fun _ => List.nodup_nil, fun _ => by decide⟩⟩
  | succ k ih =>
    intro hk
    obtain ⟨i1, i2⟩ := ih (by omega)
    have hx := hb _ (ld_mem (l := l) (k := k) (by omega))
    rw [take_succ_getD (by omega), hs_snoc, nodup_snoc, ← i2]
    generalize l.getD k 0 = x at hx
    by_cases c : (hs (l.take k)).testBit x = true
    · rw [pc_same c]
      have := hs_bit.mp c
      exact ⟨by omega, ⟨fun z => by omega, fun z => absurd this z.2⟩⟩
    · have c' : (hs (l.take k)).testBit x = false := by simpa using c
      rw [pc_add hx c']
      exact ⟨by omega, ⟨fun z => ⟨by omega, fun q => c (hs_bit.mpr q)⟩, fun z => by omega⟩⟩
section
variable {h : gz_H} {T : gz_T} {E : gz_D}
theorem m_areUnlike (H : gz_La h) {l : List Nat} (R : TR h l) (hb : ∀ f ∈ l, f < 8) (hl : l.length ≤ 8) : fX9_areUnlike 85 h = some (nI (if l.Nodup then 1 else 0), h) := by
  unfold fX9_areUnlike fX9_areUnlike_0
  have hfu : l.length < 0 + gz_fu := by show l.length < 0 + 100000; omega
  generalize gz_fu = fu at hfu ⊢
  refine lp (fun m k (y : Int32) => fX9_areUnlike_4 m 85 y (nI k) h) (fun k => nI (hs (l.take k))) l.length _ ?_ ?_ fu 0 (by omega) hfu
  · intro m
    have p := pc_hs hb l.length (Nat.le_refl _)
    rw [List.take_length] at p
    have h8 : hs l < 2 ^ 8 := hs_lt hb
    rw [List.take_length, fX9_areUnlike_4, ck_t (sh_85 H), R.1, if_pos (nI_le (Nat.le_refl _) (by omega)), t_bits (by omega), b2_s, ck_t (sh_85 H), R.1]
    by_cases c : l.Nodup
    · rw [if_pos (congrArg nI (p.2.mpr c)), if_pos c]; rfl
    · rw [if_neg (fun z => c (p.2.mp ((nI_eq (by omega) (by omega)).mp z))), if_neg c]; rfl
  · intro m k hk
    have hx := hb _ (ld_mem (l := l) (k := k) hk)
    have e9 : (1 : Int32) <<< (nI (l.getD k 0) &&& 31) = nI (2 ^ (l.getD k 0)) := nI_shl (by omega)
    rw [fX9_areUnlike_4, ck_t (sh_85 H), R.1, if_neg (nI_ge hk (by omega)), rf_85_26 H, br_s, ck_t (in_100 H (by omega)), nI_clamp (by omega), R.2 k hk, e9, nI_or, lt_d, nI_1, take_succ_getD hk, hs_snoc]
theorem dg_at {F k v : Nat} : (dg F (k + 1) v).getD k 0 = v % F := by
  have := ld_app (a := dg F k (v / F)) (b := []) (x := v % F)
  rw [dg_len] at this
  exact this
theorem dg_low {F k v q : Nat} (hq : q < k) : (dg F (k + 1) v).getD q 0 = (dg F k (v / F)).getD q 0 := ld_lt (by rw [dg_len]; exact hq)
theorem m_next7 {F : Nat} (h0 : 0 < F) (h8 : F ≤ 8) : ∀ (x n v : Nat) (s : gz_H), gz_La s → s.2.1 85 1 = nI F → x ≤ 8 → (∀ q, q < x → s.2.1 100 q = nI ((dg F x v).getD q 0)) → v < F ^ x → x < n → ∃ s', fX9_nextTried_7 n 85 (nI x - (1 : Int32)) s = some (nI (if v + 1 < F ^ x then 1 else 0), s') ∧ s'.1 = s.1 ∧ s'.2.2 = s.2.2 ∧ (∀ a k, a ≠ 100 ∨ x ≤ k → s'.2.1 a k = s.2.1 a k) ∧ (v + 1 < F ^ x → ∀ q, q < x → s'.2.1 100 q = nI ((dg F x (v + 1)).getD q 0)) := by
  intro x
  induction x with
  | zero =>
    intro n v s H e1 hx hd hv hn
    obtain ⟨n, rfl⟩ : ∃ k, n = k + 1 := ⟨n - 1, by omega⟩
    refine ⟨s, ?_, rfl, rfl, fun _ _ _ => rfl, fun z => absurd z (by rw [Nat.pow_zero]; omega)⟩
    rw [if_neg (show ¬ v + 1 < F ^ 0 by rw [Nat.pow_zero]; omega), fX9_nextTried_7, if_pos (by decide)]
    unfold fX9_nextTried_39
    rw [if_neg (by decide)]
    rfl
  | succ x ih =>
    intro n v s H e1 hx hd hv hn
    obtain ⟨n, rfl⟩ : ∃ k, n = k + 1 := ⟨n - 1, by omega⟩
    have hm := Nat.mod_lt v h0
    have dm := Nat.div_add_mod v F
    have ex : nI (x + 1) - (1 : Int32) = nI x := by rw [show (1 : Int32) = nI 1 from rfl, pk_sub (by omega)]; rfl
    have cell : s.2.1 100 x = nI (v % F) := by rw [hd x (by omega), dg_at]
    have eF : nI F - (1 : Int32) = nI (F - 1) := by rw [show (1 : Int32) = nI 1 from rfl, pk_sub (by omega)]
    have hp : F ^ (x + 1) = F ^ x * F := Nat.pow_succ F x
    rw [ex, fX9_nextTried_7, if_neg (nI_pos (by omega)), ck_t (sh_85 H), rf_85_26 H, br_s, ck_t (in_100 H (by omega)), nI_clamp (by omega), cell, e1, eF]
    by_cases c : v % F = F - 1
    · have H1 : gz_La (uI s 100 x 0) := H.of rfl rfl
      have vd : v + 1 = F * (v / F + 1) := by rw [Nat.mul_add]; omega
      have hv2 : v / F < F ^ x := Nat.div_lt_of_lt_mul (by rw [Nat.mul_comm]; omega)
      have lt2 : v + 1 < F ^ (x + 1) ↔ v / F + 1 < F ^ x := by
        rw [hp, vd, Nat.mul_comm (F ^ x) F]
        exact Nat.mul_lt_mul_left h0
      obtain ⟨s', f1, f2, f3, f4, f5⟩ := ih n (v / F) (uI s 100 x 0) H1 (by rw [uI_ne (by omega)]; exact e1) (by omega) (fun q hq => by rw [uI_ne (by omega), hd q (by omega), dg_low hq]) hv2 (by omega)
      refine ⟨s', ?_, f2, f3, fun a k q => by rw [f4 a k (by omega), uI_ne (by omega)], fun z q hq => ?_⟩
      · rw [if_pos (congrArg nI c), lt_d, show nI x + (-1) = nI x - (1 : Int32) from (Int32.sub_eq_add_neg _ _).symm, f1]
        by_cases d : v / F + 1 < F ^ x
        · rw [if_pos d, if_pos (lt2.mpr d)]
        · rw [if_neg d, if_neg (fun y => d (lt2.mp y))]
      · have y := lt2.mp z
        have d1 : (v + 1) / F = v / F + 1 := by rw [vd, Nat.mul_div_cancel_left _ h0]
        have d2 : (v + 1) % F = 0 := by rw [vd, Nat.mul_mod_right]
        by_cases w : q = x
        · rw [w, f4 100 x (by omega), uI_at, dg_at, d2]; rfl
        · rw [f5 y q (by omega), dg_low (by omega), d1]
    · have vd : v + 1 = F * (v / F) + (v % F + 1) := by omega
      have d1 : (v + 1) / F = v / F := by rw [vd, Nat.mul_add_div h0, Nat.div_eq_of_lt (a := v % F + 1) (b := F) (by omega), Nat.add_zero]
      have d2 : (v + 1) % F = v % F + 1 := by rw [vd, Nat.mul_add_mod, Nat.mod_eq_of_lt (a := v % F + 1) (by omega)]
      have hv2 : v / F < F ^ x := Nat.div_lt_of_lt_mul (by rw [Nat.mul_comm]; omega)
      have lt2 : v + 1 < F ^ (x + 1) := by
        have : F * (v / F + 1) ≤ F * F ^ x := Nat.mul_le_mul_left F (by omega)
        rw [Nat.mul_add, Nat.mul_comm F (F ^ x)] at this
        rw [hp]
        omega
      refine ⟨uI s 100 x (nI (v % F + 1)), ?_, rfl, rfl, fun a k q => uI_ne (by omega), fun z q hq => ?_⟩
      · rw [if_neg (fun y => c ((nI_eq (by omega) (by omega)).mp y)), if_pos lt2]
        unfold fX9_nextTried_39
        rw [if_pos (nI_pos' (by omega)), ck_t (sh_85 H), rf_85_26 H, br_s, ck_t (in_100 H (by omega)), nI_clamp (by omega), cell, nI_1, lt_d]
        rfl
      · by_cases w : q = x
        · rw [w, uI_at, dg_at, d2]
        · rw [uI_ne (by omega), hd q (by omega), dg_low (by omega), dg_low (by omega), d1]
theorem fr2.sc {h h' : gz_H} (f : fr2 h h' 23) : sc h h' := ⟨f.1, f.2.1, fun a k q => by
  unfold scr at q
  exact f.2.2.1 a k (by omega) (by omega)⟩
theorem RP.cg {h h' : gz_H} {pp ss : Nat → Nat} {M : Nat} (R : RP h pp ss M) (e1 : h'.2.1 21 1 = h.2.1 21 1) (e2 : ∀ p, h'.2.1 22 p = h.2.1 22 p) : RP h' pp ss M := by
  obtain ⟨c, S, r1, r2, r3, r4⟩ := R
  exact ⟨c, S, e1.trans r1, fun p hp => (e2 p).trans (r2 p hp), r3, r4⟩
/-- the rows that fit, as the class counts them -/
theorem x_fitting {pp ss : Nat → Nat} {M kd mo : Nat} (hk : kd ≤ 5) (h1 : 1 ≤ mo) (hmo : mo ≤ 8) : ∀ (n left : Nat) (l : List Nat) (h : gz_H), left < n → l.length + left ≤ mo → gv h 23 l → l.Nodup → (∀ f ∈ l, f < T.1) → XV h T E → h.2.1 23 2 = nI kd → h.2.1 23 3 = nI mo → RP h pp ss M → ∃ h', fX8_fittingRows n 23 28 21 (nI left) h = some (nI (cx T.1 (Gd (fun l => fit pp ss (ta T kd mo l) M)) left l), h') ∧ fr2 h h' 23 ∧ gv h' 23 l := by
  intro n
  induction n with
  | zero => intro left l h h1; omega
  | succ n ih =>
    intro left l h hn hl G nd lb V k1 k2 R
    have H := V.H
    have b := V.b
    have fe := x_fits (kd := nI kd) H R (sh_23 H) (tl := ta T kd mo l) (fun p hp => x_toldAs V G lb hk hp k2 hmo) (fun p hp => ta_lt8 b.1 lb)
    have gl : Gd (fun l => fit pp ss (ta T kd mo l) M) l = (if fit pp ss (ta T kd mo l) M = true then 1 else 0) := by
      unfold Gd
      by_cases c : fit pp ss (ta T kd mo l) M = true
      · rw [if_pos ⟨nd, c⟩, if_pos c]
      · rw [if_neg (fun z => c z.2), if_neg c]
    have A : fX8_fittingRows (n + 1) 23 28 21 (nI left) h = fX8_fittingRows_21 (fX8_fittingRows n) 23 28 21 (nI left) (nI (Gd (fun l => fit pp ss (ta T kd mo l) M) l)) h := by
      rw [fX8_fittingRows]
      unfold fX8_fittingRows_0
      rw [ck_t (sh_23 H), ck_t (sh_28 H), rf_28_0 H, br_s, ck_t (sh_21 H), k1, fe, b2_s, gl]
      by_cases c : fit pp ss (ta T kd mo l) M = true
      · rw [if_pos c, if_neg (by decide)]; rfl
      · rw [if_neg c, if_pos (by decide)]; rfl
    rw [A]
    unfold fX8_fittingRows_21
    cases left with
    | zero =>
      refine ⟨h, ?_, fr2.rf, G⟩
      rw [if_neg (by decide)]
      rfl
    | succ j =>
      rw [if_pos (show (0 : Int32) < nI (j + 1) from nI_lt (a := 0) (by omega) (by omega))]
      have hfu : T.1 < 0 + gz_fu := by show T.1 < 0 + 100000; omega
      generalize gz_fu = fu at hfu
      generalize hGd : Gd (fun l => fit pp ss (ta T kd mo l) M) = GG at ih ⊢
      have hin : ∀ f, f ∈ l → cx T.1 GG j (l ++ [f]) = 0 := fun f hf => by rw [← hGd]; exact cx_in hf
      refine lpr (fun m f (q : gz_H) => fX8_fittingRows_33 (fX8_fittingRows n) m 23 28 21 (nI (j + 1)) (nI (GG l + fs (fun f => cx T.1 GG j (l ++ [f])) f)) (nI f) q) (fun f q => fr2 h q 23 ∧ gv q 23 l) T.1 (fun r => ∃ h', r = some (nI (cx T.1 GG (j + 1) l), h') ∧ fr2 h h' 23 ∧ gv h' 23 l) ?_ ?_ fu 0 h (by omega) hfu ⟨fr2.rf, G⟩
      · intro m q ⟨q1, q2⟩
        have Vq := V.sc q1.sc
        have Hq := Vq.H
        refine ⟨q, ?_, q1, q2⟩
        rw [fX8_fittingRows_33, ck_t (sh_28 Hq), Vq.f, if_pos (nI_le (Nat.le_refl _) (by omega))]
        rfl
      · intro m f q hf ⟨q1, q2⟩
        have Vq := V.sc q1.sc
        have Hq := Vq.H
        have es : GG l + fs (fun f => cx T.1 GG j (l ++ [f])) (f + 1) = GG l + fs (fun f => cx T.1 GG j (l ++ [f])) f + cx T.1 GG j (l ++ [f]) := by rw [Nat.add_assoc]; rfl
        have lb8 : ∀ x ∈ l, x < 8 := fun x hx => Nat.lt_of_lt_of_le (lb x hx) b.1
        have eh := x_hasFact q2 lb8 (f := f) (by omega)
        by_cases c : f ∈ l
        · refine ⟨q, ⟨q1, q2⟩, ?_⟩
          show fX8_fittingRows_33 (fX8_fittingRows n) (m + 1) 23 28 21 (nI (j + 1)) (nI (GG l + fs (fun f => cx T.1 GG j (l ++ [f])) f)) (nI f) q = fX8_fittingRows_33 (fX8_fittingRows n) m 23 28 21 (nI (j + 1)) (nI (GG l + fs (fun f => cx T.1 GG j (l ++ [f])) (f + 1))) (nI (f + 1)) q
          rw [fX8_fittingRows_33, ck_t (sh_28 Hq), Vq.f, if_neg (nI_ge hf (by omega)), ck_t (sh_23 Hq), eh, if_pos c, b2_s, if_neg (by decide)]
          unfold fX8_fittingRows_80
          rw [nI_1, es, hin f c]
          rfl
        · have nm : ¬ mo ≤ l.length := by omega
          have q3 : q.2.1 23 3 = nI mo := by rw [q1.2.2.2 3 (by omega)]; exact k2
          obtain ⟨t1, e1, g1, r1⟩ := x_take q2 lb8 q3 h1 hmo (by omega) (f := f) (by omega)
          rw [tk_add c nm] at g1
          have f1 := q1.tr r1
          have lb1 : ∀ x ∈ l ++ [f], x < T.1 := fun x hx => (List.mem_append.mp hx).elim (lb x) (fun z => by rw [List.mem_singleton.mp z]; exact hf)
          obtain ⟨t2, e2, r2, g2⟩ := ih j (l ++ [f]) t1 (by omega) (by rw [List.length_append]; show l.length + 1 + j ≤ mo; omega) g1 (nodup_add nd c) lb1 (V.sc f1.sc) (by rw [f1.2.2.2 2 (by omega)]; exact k1) (by rw [f1.2.2.2 3 (by omega)]; exact k2) (R.cg (f1.2.2.1 21 1 (by omega) (by omega)) (fun p => f1.2.2.1 22 p (by omega) (by omega)))
          have f2 := f1.tr r2
          obtain ⟨t3, e3, g3, r3⟩ := x_lose g2
          rw [List.dropLast_concat] at g3
          have H2 := (V.sc f2.sc).H
          have ej : nI (j + 1) - (1 : Int32) = nI j := by rw [show (1 : Int32) = nI 1 from rfl, pk_sub (by omega)]; rfl
          refine ⟨t3, ⟨f2.tr r3, g3⟩, ?_⟩
          show fX8_fittingRows_33 (fX8_fittingRows n) (m + 1) 23 28 21 (nI (j + 1)) (nI (GG l + fs (fun f => cx T.1 GG j (l ++ [f])) f)) (nI f) q = fX8_fittingRows_33 (fX8_fittingRows n) m 23 28 21 (nI (j + 1)) (nI (GG l + fs (fun f => cx T.1 GG j (l ++ [f])) (f + 1))) (nI (f + 1)) t3
          rw [fX8_fittingRows_33, ck_t (sh_28 Hq), Vq.f, if_neg (nI_ge hf (by omega)), ck_t (sh_23 Hq), eh, if_neg c, b2_s, if_pos rfl, ck_t (sh_23 Hq), e1, b2_s, ej, e2, b2_s, ck_t (sh_23 H2), e3, b2_s]
          unfold fX8_fittingRows_80
          rw [nI_1, nI_add, es]
theorem powF {F k : Nat} (h0 : 0 < F) (h8 : F ≤ 8) (hk : k ≤ 4) : 0 < F ^ k ∧ F ^ k ≤ 4096 :=
  ⟨Nat.pow_pos h0, Nat.le_trans (Nat.pow_le_pow_left h8 k) (Nat.pow_le_pow_right (n := 8) (by decide) hk)⟩
theorem PRm.sc {h h' : gz_H} {r M : Nat} {pp ss : Nat → Nat} (P : PRm h r M pp ss) (s : sc h h') : PRm h' r M pp ss := ⟨by rw [s.2.2 91 r (by unfold scr; omega)]; exact P.1, fun k hk => by rw [s.2.2 92 _ (by unfold scr; omega), s.2.2 92 _ (by unfold scr; omega)]; exact P.2 k hk⟩
/-- all rows of k facts are tried -/
theorem m_held92 (V : MV h T E) {i r M k : Nat} (hi : i < T.2.1) (hr : r < 6) (hM : M ≤ 20) {pp ss : Nat → Nat} (hb : ∀ k, k < M → pp k < 6 ∧ ss k < 256) (P : PRm h r M pp ss) (hk : k ≤ T.2.2.2.2.1 i) (h4 : T.2.2.2.2.1 i ≤ 4) {n0 : Nat} {s : gz_H} (ss0 : sc h s) (e25 : s.2.1 85 25 = nI k) (ez : ∀ q, q < k → s.2.1 100 q = nI ((dg T.1 k 0).getD q 0)) (kk : Nat → Int32 → Int32 → Int64 → gz_H → Option (Int32 × gz_H)) : ∃ s', fX9_held_92 kk gz_fu 85 (nI i) (nI r) (lN n0) (1 : Int32) s = kk 85 (nI i) (nI r) (lN (n0 + st T.1 k (Gd (fun l => fit pp ss (ta T (T.2.2.2.1 i) (T.2.2.2.2.1 i) l) M)))) s' ∧ sc h s' ∧ s'.2.1 85 25 = nI (k + 1) := by
  have b := V.b
  have wb := V.2.1.bi i hi
  have F0 : 0 < T.1 := by
    rcases Nat.eq_zero_or_pos T.1 with z | z
    · have := V.2.1.2.2.1.mp z
      omega
    · exact z
  have pF := powF (k := k) F0 b.1 (by omega)
  have hfu : T.1 ^ k < 0 + gz_fu := by show T.1 ^ k < 0 + 100000; omega
  have e1 : (1 : Int32) = nI (if 0 < T.1 ^ k then 1 else 0) := by rw [if_pos pF.1]; rfl
  generalize gz_fu = fu at hfu
  rw [e1]
  generalize hGd : Gd (fun l => fit pp ss (ta T (T.2.2.2.1 i) (T.2.2.2.2.1 i) l) M) = GG
  refine lpr (fun m v (q : gz_H) => fX9_held_92 kk m 85 (nI i) (nI r) (lN (n0 + fs (fun v => GG (dg T.1 k v)) v)) (nI (if v < T.1 ^ k then 1 else 0)) q) (fun v q => sc h q ∧ q.2.1 85 25 = nI k ∧ (v < T.1 ^ k → ∀ p, p < k → q.2.1 100 p = nI ((dg T.1 k v).getD p 0))) (T.1 ^ k) (fun x => ∃ s', x = kk 85 (nI i) (nI r) (lN (n0 + st T.1 k GG)) s' ∧ sc h s' ∧ s'.2.1 85 25 = nI (k + 1)) ?_ ?_ fu 0 s (by omega) hfu ⟨ss0, e25, fun _ => ez⟩
  · intro m q ⟨q1, q2, q3⟩
    have Hq := q1.la V.H
    refine ⟨uI q 85 25 (nI (k + 1)), ?_, q1.tr (sc.uI (by unfold scr; omega)), uI_at⟩
    show fX9_held_92 kk (m + 1) 85 (nI i) (nI r) (lN (n0 + fs (fun v => GG (dg T.1 k v)) (T.1 ^ k))) (nI (if T.1 ^ k < T.1 ^ k then 1 else 0)) q = _
    rw [fX9_held_92, if_neg (show ¬ T.1 ^ k < T.1 ^ k by omega), if_pos (by decide), ck_t (sh_85 Hq), q2, nI_1, lt_d]
    rfl
  · intro m v q hv ⟨q1, q2, q3⟩
    have Vq := V.sc q1
    have Hq := Vq.H
    have q3 := q3 hv
    have R : TR q (dg T.1 k v) := ⟨by rw [dg_len]; exact q2, fun p hp => q3 p (by rw [dg_len] at hp; exact hp)⟩
    have lb : ∀ f ∈ dg T.1 k v, f < T.1 := fun f hf => dg_mem F0 hf
    have lb8 : ∀ f ∈ dg T.1 k v, f < 8 := fun f hf => Nat.lt_of_lt_of_le (lb f hf) b.1
    have au := m_areUnlike Hq R lb8 (by rw [dg_len]; omega)
    have so := m_isSo (kd := nI (T.2.2.2.1 i)) (mo := nI (T.2.2.2.2.1 i)) Hq hr hM (P.sc q1).1 (P.sc q1).2 hb (tl := ta T (T.2.2.2.1 i) (T.2.2.2.2.1 i) (dg T.1 k v)) (fun p hp => m_tellsTried Vq R (by rw [dg_len]; omega) lb wb.1 hp wb.2.2.1 (by rw [dg_len]; exact hk)) (fun p hp => ta_lt8 b.1 lb)
    obtain ⟨s', n1, n2, n3, n4, n5⟩ := m_next7 F0 b.1 k gz_fu v q Hq Vq.f (by omega) q3 hv (by show k < 100000; omega)
    have es : fs (fun v => GG (dg T.1 k v)) (v + 1) = fs (fun v => GG (dg T.1 k v)) v + GG (dg T.1 k v) := rfl
    have nx : fX9_nextTried 85 q = some (nI (if v + 1 < T.1 ^ k then 1 else 0), s') := by
      unfold fX9_nextTried fX9_nextTried_0
      rw [ck_t (sh_85 Hq), q2]
      exact n1
    have K : ∀ g : Nat, fX9_held_131 kk (fun z0 z1 z2 z3 z4 zh => fX9_held_92 kk m z0 z1 z2 z3 z4 zh) 85 (nI i) (nI r) (lN (n0 + fs (fun v => GG (dg T.1 k v)) v)) (lN g) q = fX9_held_92 kk m 85 (nI i) (nI r) (lN (n0 + (fs (fun v => GG (dg T.1 k v)) v + g))) (nI (if v + 1 < T.1 ^ k then 1 else 0)) s' := by
      intro g
      unfold fX9_held_131
      rw [ck_t (sh_85 Hq), nx, b2_s, l_add, Nat.add_assoc]
    have K0 := K 0
    have K1 := K 1
    refine ⟨s', ⟨q1.tr ⟨n2, n3, fun a p z => n4 a p (by unfold scr at z; omega)⟩, by rw [n4 85 25 (by omega)]; exact q2, n5⟩, ?_⟩
    show fX9_held_92 kk (m + 1) 85 (nI i) (nI r) (lN (n0 + fs (fun v => GG (dg T.1 k v)) v)) (nI (if v < T.1 ^ k then 1 else 0)) q = fX9_held_92 kk m 85 (nI i) (nI r) (lN (n0 + fs (fun v => GG (dg T.1 k v)) (v + 1))) (nI (if v + 1 < T.1 ^ k then 1 else 0)) s'
    rw [fX9_held_92, if_pos hv, if_neg (by decide), ck_t (sh_85 Hq), au, b2_s, es]
    have gv : GG (dg T.1 k v) = if (dg T.1 k v).Nodup ∧ fit pp ss (ta T (T.2.2.2.1 i) (T.2.2.2.2.1 i) (dg T.1 k v)) M = true then 1 else 0 := by rw [← hGd]; rfl
    rw [gv]
    unfold fX9_held_130
    by_cases c : (dg T.1 k v).Nodup
    · rw [if_pos c, if_neg (by decide), ck_t (sh_85 Hq), rf_85_4 Hq, br_s, ck_t (in_88 Hq (by omega)), rf_85_5 Hq, br_s, ck_t (in_89 Hq (by omega)), nI_clamp (by omega), Vq.kd i hi, Vq.mo i hi, so, b2_s]
      by_cases d : fit pp ss (ta T (T.2.2.2.1 i) (T.2.2.2.2.1 i) (dg T.1 k v)) M = true
      · rw [if_pos d, if_neg (by decide), if_pos ⟨c, d⟩]
        exact K1
      · rw [if_neg d, if_pos (by decide), if_neg (fun z => d z.2)]
        exact K0
    · rw [if_neg c, if_pos (by decide), if_neg (fun z => c z.1)]
      exact K0
theorem dg_zero {F : Nat} : ∀ k q, (dg F k 0).getD q 0 = 0 := by
  intro k
  induction k with
  | zero => intro q; simp [dg]
  | succ k ih =>
    intro q
    rw [dg, Nat.zero_div, Nat.zero_mod]
    by_cases c : q < k
    · rw [ld_lt (by rw [dg_len]; exact c)]; exact ih q
    · rw [ld_ge (by rw [dg_len]; omega)]
      rcases Nat.eq_zero_or_pos (q - (dg F k 0).length) with z | z
      · rw [z]; rfl
      · obtain ⟨y, hy⟩ : ∃ y, q - (dg F k 0).length = y + 1 := ⟨q - (dg F k 0).length - 1, by omega⟩
        rw [hy]
        rfl
theorem m_held50 (V : MV h T E) {i r M : Nat} (hi : i < T.2.1) (hr : r < 6) (hM : M ≤ 20) {pp ss : Nat → Nat} (hb : ∀ k, k < M → pp k < 6 ∧ ss k < 256) (P : PRm h r M pp ss) (h4 : T.2.2.2.2.1 i ≤ 4) (e25 : h.2.1 85 25 = nI 0) : ∃ h', sc h h' ∧ fX9_held_50 gz_fu 85 (nI i) (nI r) (0 : Int64) h = some (1, uL (uL h' 85 12 (lN (fs (fun k => st T.1 k (Gd (fun l => fit pp ss (ta T (T.2.2.2.1 i) (T.2.2.2.2.1 i) l) M))) (T.2.2.2.2.1 i + 1)))) 85 13 (lN 1)) := by
  have b := V.b
  have wb := V.2.1.bi i hi
  have hfu : T.2.2.2.2.1 i + 1 < 0 + gz_fu := by show T.2.2.2.2.1 i + 1 < 0 + 100000; omega
  generalize hGd : Gd (fun l => fit pp ss (ta T (T.2.2.2.1 i) (T.2.2.2.2.1 i) l) M) = GG
  generalize ef : gz_fu = fu at hfu
  refine lpr (fun m k (q : gz_H) => fX9_held_50 m 85 (nI i) (nI r) (lN (fs (fun k => st T.1 k GG) k)) q) (fun k q => sc h q ∧ q.2.1 85 25 = nI k) (T.2.2.2.2.1 i + 1) (fun x => ∃ h', sc h h' ∧ x = some (1, uL (uL h' 85 12 (lN (fs (fun k => st T.1 k GG) (T.2.2.2.2.1 i + 1)))) 85 13 (lN 1))) ?_ ?_ fu 0 h (by omega) hfu ⟨sc.rf, e25⟩
  · intro m q ⟨q1, q2⟩
    have Vq := V.sc q1
    have Hq := Vq.H
    refine ⟨q, q1, ?_⟩
    rw [fX9_held_50, ck_t (sh_85 Hq), rf_85_5 Hq, br_s, ck_t (in_89 Hq (by omega)), nI_clamp (by omega), Vq.mo i hi, q2, if_pos (nI_lt (by omega) (by omega)), lt_d, ck_t (sh_85 (show gz_La (uL q 85 12 _) from Hq.of rfl rfl)), lt_d]
    rfl
  · intro m k q hk ⟨q1, q2⟩
    have Vq := V.sc q1
    have Hq := Vq.H
    have A : ∃ s, fX9_held_66 (fun z0 z1 z2 z3 zh => fX9_held_50 m z0 z1 z2 z3 zh) gz_fu 85 (nI i) (nI r) (lN (fs (fun k => st T.1 k GG) k)) (0 : Int32) q = fX9_held_92 (fun z0 z1 z2 z3 zh => fX9_held_50 m z0 z1 z2 z3 zh) gz_fu 85 (nI i) (nI r) (lN (fs (fun k => st T.1 k GG) k)) (1 : Int32) s ∧ sc h s ∧ s.2.1 85 25 = nI k ∧ ∀ p, p < k → s.2.1 100 p = nI ((dg T.1 k 0).getD p 0) := by
      have hfu2 : k < 0 + gz_fu := by show k < 0 + 100000; omega
      generalize ef2 : gz_fu = fu2 at hfu2
      refine lpr (fun n p (u : gz_H) => fX9_held_66 (fun z0 z1 z2 z3 zh => fX9_held_50 m z0 z1 z2 z3 zh) n 85 (nI i) (nI r) (lN (fs (fun k => st T.1 k GG) k)) (nI p) u) (fun p u => sc h u ∧ u.2.1 85 25 = nI k ∧ ∀ p', p' < p → u.2.1 100 p' = nI ((dg T.1 k 0).getD p' 0)) k (fun x => ∃ s, x = fX9_held_92 (fun z0 z1 z2 z3 zh => fX9_held_50 m z0 z1 z2 z3 zh) fu2 85 (nI i) (nI r) (lN (fs (fun k => st T.1 k GG) k)) (1 : Int32) s ∧ sc h s ∧ s.2.1 85 25 = nI k ∧ ∀ p, p < k → s.2.1 100 p = nI ((dg T.1 k 0).getD p 0)) ?_ ?_ fu2 0 q (by omega) hfu2 ⟨q1, q2, fun p hp => absurd hp (by omega)⟩
      · intro n u ⟨u1, u2, u3⟩
        have Hu := u1.la V.H
        refine ⟨u, ?_, u1, u2, u3⟩
        rw [fX9_held_66, ck_t (sh_85 Hu), u2, if_pos (nI_le (Nat.le_refl _) (by omega)), ef2]
      · intro n p u hp ⟨u1, u2, u3⟩
        have Hu := u1.la V.H
        refine ⟨uI u 100 p (0 : Int32), ⟨u1.tr (sc.uI (by unfold scr; omega)), by rw [uI_ne (by omega)]; exact u2, fun p' hp' => ?_⟩, ?_⟩
        · by_cases c : p' = p
          · rw [c, uI_at, dg_zero]; rfl
          · rw [uI_ne (by omega)]; exact u3 p' (by omega)
        · rw [fX9_held_66, ck_t (sh_85 Hu), u2, if_neg (nI_ge hp (by omega)), rf_85_26 Hu, br_s, ck_t (in_100 Hu (by omega)), nI_clamp (by omega), lt_d, nI_1]
    obtain ⟨s, e1, s1, s2, s3⟩ := A
    obtain ⟨s', e2, s4, s5⟩ := m_held92 V hi hr hM hb P (k := k) (by omega) h4 (n0 := fs (fun k => st T.1 k GG) k) s1 s2 s3 (fun z0 z1 z2 z3 zh => fX9_held_50 m z0 z1 z2 z3 zh)
    rw [hGd] at e2
    refine ⟨s', ⟨s4, s5⟩, ?_⟩
    show fX9_held_50 (m + 1) 85 (nI i) (nI r) (lN (fs (fun k => st T.1 k GG) k)) q = fX9_held_50 m 85 (nI i) (nI r) (lN (fs (fun k => st T.1 k GG) (k + 1))) s'
    rw [fX9_held_50, ck_t (sh_85 Hq), rf_85_5 Hq, br_s, ck_t (in_89 Hq (by omega)), nI_clamp (by omega), Vq.mo i hi, q2, if_neg (nI_nlt (by omega) (by omega)), e1, e2]
    rfl
theorem op_held (I : gz_Iv h) (x1 x2 : Int32) : gz_ag (fX8_held 0 x1 x2) (fX9_held 85 x1 x2) h gz_Iv := by
  obtain ⟨T, D, ds, ks, sa, F⟩ := I.2
  have V := F.xv I.1.1
  have W := F.mv I.1.1
  have H := V.H
  have b := V.b
  have p1 := p2_lt b.1
  have S := H.rows I.1.2.1
  rcases p_cases x1 T.2.1 (by omega) with hx | ⟨i, hi, rfl⟩
  · refine ag_no I (y := -1) ?_ ?_
    · unfold fX8_held fX8_held_0
      rw [ck_t (sh_0 H), rf_0_9 H, br_s, ck_t (sh_28 H), x_goose_out V hx, b2_s, if_pos (by decide)]
    · unfold fX9_held fX9_held_0
      rw [ck_t (sh_85 H), m_goose_out W hx, b2_s, if_pos (by decide)]
  rcases p_cases x2 6 (by omega) with hx | ⟨r, hr, rfl⟩
  · refine ag_no I (y := -1) ?_ ?_
    · unfold fX8_held fX8_held_0
      rw [ck_t (sh_0 H), rf_0_9 H, br_s, ck_t (sh_28 H), x_goose_in V hi, b2_s, if_neg (by decide), ck_t (sh_0 H), rf_0_0 H, br_s, ck_t (sh_1 H), p_knows_out S hx, b2_s, if_pos (by decide)]
    · unfold fX9_held fX9_held_0
      rw [ck_t (sh_85 H), m_goose_in W hi, b2_s, if_neg (by decide), p_isRow_out hx, b2_s, if_pos (by decide)]
  have wb := V.2.1.bi i hi
  have F0 : 0 < T.1 := by
    rcases Nat.eq_zero_or_pos T.1 with z | z
    · have := V.2.1.2.2.1.mp z
      omega
    · exact z
  have X0 : fX8_held 0 (nI i) (nI r) h = if nI (T.2.2.2.2.1 i) ≤ (4 : Int32) then gz_b2 (fX8_readReport 0 (nI r) h) (fun y_22 h_21 => if y_22 = 0 then gz_ck (gz_sh h_21 0 8 19) (gz_br (h_21.2.2.2 0 6) fun r_25 => gz_ck (gz_sh h_21 (31 + 2 * i) 2 6) (gz_ck (gz_sh h_21 r_25 2 6) (gz_b2 (fX2_become r_25 (h_21.2.1 (31 + 2 * i) 2) (h_21.2.1 (31 + 2 * i) 3) (h_21.2.1 (31 + 2 * i) 4) h_21) fun _ h_27 => gz_ck (gz_sh h_27 0 8 19) (gz_br (h_27.2.2.2 0 4) fun r_31 => gz_br (h_27.2.2.2 0 6) fun r_32 => gz_br (h_27.2.2.2 0 9) fun r_33 => gz_br (h_27.2.2.2 0 5) fun r_34 => gz_ck (gz_sh h_27 (31 + 2 * i) 2 6) (gz_b2 (fX8_fittingRows 8 r_32 r_33 r_34 (h_27.2.1 (31 + 2 * i) 3) h_27) fun y_37 h_36 => gz_ck (gz_sh h_36 r_31 4 2) (gz_b2 (fX4_become r_31 y_37.toInt64 (1 : Int64) h_36) fun _ h_38 => some ((1 : Int32), h_38))))))) else some (y_22, h_21)) else some (-4, h) := by
    unfold fX8_held fX8_held_0
    rw [ck_t (sh_0 H), rf_0_9 H, br_s, ck_t (sh_28 H), x_goose_in V hi, b2_s, if_neg (by decide), ck_t (sh_0 H), rf_0_0 H, br_s, ck_t (sh_1 H), p_knows_in S hr, b2_s, if_neg (by decide), ck_t (sh_0 H), rf_0_9 H, br_s, ck_t (sh_28 H), rf_28_1 H, br_s, ck_t (in_30 H (by omega)), nI_clamp (by omega), rf_30 H (by omega), br_s, ck_t (sgk_31 H (by omega)), V.mo i hi]
  have M0 : ∀ q, MV q T (rn T D ds) → fX9_held 85 (nI i) (nI r) q = if nI (T.2.2.2.2.1 i) ≤ (4 : Int32) then gz_b2 (fX9_noPairs 85 (nI r) q) (fun y_13 h_12 => if y_13 = 0 then gz_ck (gz_sh h_12 85 9 29) (gz_lt (uI h_12 85 25 (0 : Int32)) fun h_16 => fX9_held_50 gz_fu 85 (nI i) (nI r) (0 : Int64) h_16) else some (y_13, h_12)) else some (-4, q) := by
    intro q Wq
    have Hq := Wq.H
    unfold fX9_held fX9_held_0
    rw [ck_t (sh_85 Hq), m_goose_in Wq hi, b2_s, if_neg (by decide), p_isRow_in hr, b2_s, if_neg (by decide), ck_t (sh_85 Hq), rf_85_5 Hq, br_s, ck_t (in_89 Hq (by omega)), nI_clamp (by omega), Wq.mo i hi]
  by_cases h4 : T.2.2.2.2.1 i ≤ 4
  · have h4' : nI (T.2.2.2.2.1 i) ≤ (4 : Int32) := nI_le (b := 4) h4 (by decide)
    rw [if_pos h4'] at X0
    rcases rep I V W hr with ⟨f, hf, e1, e2⟩ | ⟨h1, M, pp, ss, hM, hb, e1, s1, R, P⟩
    · refine ag_iv I (st_findE I.1 (f := f) hf ?_ ?_)
      · rw [X0, e1, b2_s, if_neg (by decide)]
      · rw [M0 _ (W.kp kp.xf), if_pos h4', e2, b2_s, if_neg (by decide)]
    · have V1 := V.sc s1
      have H1 := V1.H
      have hb' : ∀ k, k < M → pp k < 6 ∧ ss k < 256 := fun k hk => ⟨(hb k hk).1, by have := (hb k hk).2; omega⟩
      generalize hu : uI (uI (uI (uI (uI h1 23 2 (nI (T.2.2.2.1 i))) 23 3 (nI (T.2.2.2.2.1 i))) 23 4 (nI (T.2.2.2.2.2 i))) 23 1 (0 : Int32)) 23 5 (0 : Int32) = u
      have u1 : u.1 = h1.1 := by rw [← hu]; rfl
      have u2 : u.2.2 = h1.2.2 := by rw [← hu]; rfl
      have uo : ∀ a k, a ≠ 23 → u.2.1 a k = h1.2.1 a k := fun a k q => by rw [← hu, uI_ne (by omega), uI_ne (by omega), uI_ne (by omega), uI_ne (by omega), uI_ne (by omega)]
      have su : sc h1 u := ⟨u1, u2, fun a k q => uo a k (by unfold scr at q; omega)⟩
      have Vu := V1.sc su
      have Hu := Vu.H
      have v2 : u.2.1 23 2 = nI (T.2.2.2.1 i) := by rw [← hu, uI_ne (by omega), uI_ne (by omega), uI_ne (by omega), uI_ne (by omega), uI_at]
      have v3 : u.2.1 23 3 = nI (T.2.2.2.2.1 i) := by rw [← hu, uI_ne (by omega), uI_ne (by omega), uI_ne (by omega), uI_at]
      have v1 : u.2.1 23 1 = nI 0 := by rw [← hu, uI_ne (by omega), uI_at]; rfl
      have Gu : gv u 23 [] := ⟨Hu.sh rfl, Hu.sh rfl, rf_23_0 Hu, by decide, v1, fun k hk => absurd hk (by simp)⟩
      have Ru : RP u pp ss M := R.cg (uo 21 1 (by omega)) (fun p => uo 22 p (by omega))
      obtain ⟨t, et, ft, gt⟩ := x_fitting (E := rn T D ds) (kd := T.2.2.2.1 i) wb.1 wb.2.1 wb.2.2.1 8 (T.2.2.2.2.1 i) [] u (by omega) (by simp) Gu List.nodup_nil (fun f hf => absurd hf (by simp)) Vu v2 v3 Ru
      generalize hc : cx T.1 (Gd (fun l => fit pp ss (ta T (T.2.2.2.1 i) (T.2.2.2.2.1 i) l) M)) (T.2.2.2.2.1 i) [] = C at et
      have cl : C ≤ 9 ^ 4 := by rw [← hc]; exact Nat.le_trans (cx_le b.1) (Nat.pow_le_pow_right (n := 9) (by decide) h4)
      have cl : C ≤ 6561 := cl
      have st1 : sc h1 t := su.tr ft.sc
      have Ht := st1.la H1
      have ra := x_ratio Ht (a := C) (b := 1) (by omega) (by omega) (by omega)
      rw [Nat.gcd_one_right, pk_lDiv (by omega) (by omega) (by omega), pk_lDiv (by omega) (by omega) (by omega), Nat.div_one, Nat.div_one] at ra
      have W3 : MV (uL (uL t 20 0 (lN C)) 20 1 (lN 1)) T (rn T D ds) := ((W.sc (s1.tr st1)).kp kp.uL).kp kp.uL
      have Pt : PRm t r M pp ss := P.sc (s1.tr st1)
      have P3 : PRm (uL (uL t 20 0 (lN C)) 20 1 (lN 1)) r M pp ss := Pt
      have H3 := W3.H
      have sz : sc (uL (uL t 20 0 (lN C)) 20 1 (lN 1)) (uI (uL (uL t 20 0 (lN C)) 20 1 (lN 1)) 85 25 (0 : Int32)) := sc.uI (by unfold scr; omega)
      obtain ⟨z, s4, e4⟩ := m_held50 (W3.sc sz) hi hr hM hb' (P3.sc sz) h4 uI_at
      have tot : fs (fun k => st T.1 k (Gd (fun l => fit pp ss (ta T (T.2.2.2.1 i) (T.2.2.2.2.1 i) l) M))) (T.2.2.2.2.1 i + 1) = C := by
        have := st_cx F0 (G := Gd (fun l => fit pp ss (ta T (T.2.2.2.1 i) (T.2.2.2.2.1 i) l) M)) (T.2.2.2.2.1 i) 0
        rw [← hc]
        have e0 : st T.1 0 (cx T.1 (Gd (fun l => fit pp ss (ta T (T.2.2.2.1 i) (T.2.2.2.2.1 i) l) M)) (T.2.2.2.2.1 i)) = cx T.1 (Gd (fun l => fit pp ss (ta T (T.2.2.2.1 i) (T.2.2.2.2.1 i) l) M)) (T.2.2.2.2.1 i) [] := Nat.zero_add _
        rw [← e0, this]
        exact fs_cg fun k _ => by rw [Nat.zero_add]
      rw [tot] at e4
      refine r_end I (v := 1) (A := lN C) (B := lN 1) (X := fX8_held 0 (nI i) (nI r)) (M := fX9_held 85 (nI i) (nI r)) ?_ (s1.tr st1) ?_ (sz.tr s4)
      · rw [X0, e1, b2_s, if_pos rfl, ck_t (sh_0 H1), rf_0_6 H1, br_s, ck_t (sgk_31 H1 (by omega)), ck_t (sh_23 H1), V1.kd i hi, V1.mo i hi, V1.rk i hi]
        unfold fX2_become fX2_become_0
        rw [ck_t (sh_23 H1)]
        simp only [lt_d, sh_uI]
        rw [ck_t (sh_23 H1), ck_t (sh_23 H1), ck_t (sh_23 H1), ck_t (sh_23 H1), hu, b2_s, ck_t (sh_0 Hu), rf_0_4 Hu, br_s, rf_0_6 Hu, br_s, rf_0_9 Hu, br_s, rf_0_5 Hu, br_s, ck_t (sgk_31 Hu (by omega)), Vu.mo i hi, et, b2_s, ck_t (sh_20 Ht), i_l64 (by omega), show (1 : Int64) = lN 1 from rfl, ra, b2_s]
      · rw [M0 _ W3, if_pos h4', m_np_ok W3 hr hM hb P3, b2_s, if_pos rfl, ck_t (sh_85 H3), lt_d]
        exact e4
  · have h4' : ¬ nI (T.2.2.2.2.1 i) ≤ (4 : Int32) := nI_ge (a := 4) (by omega) (by omega)
    refine ag_no I (y := -4) ?_ ?_
    · rw [X0, if_neg h4']
    · rw [M0 h W, if_neg h4']
end
