/-! PURE: lots agree -/
def lotS (s : Nat) : Nat → Nat
  | 0 => s
  | k + 1 => lotS s k * 48271 % 2147483647
def lotD (T : gz_T) (l : Nat) : gz_De := if l / 8 % 4 = 0 then (1, l % T.2.1, 0) else (0, l % T.2.1, l / 64 % T.1)
def lotR (T : gz_T) (D : gz_D) (ds : List gz_De) (l : Nat) : List gz_De := if (rn T D ds (l % T.2.1)).2 = true then ds else ds ++ [lotD T l]
def lotsR (T : gz_T) (D : gz_D) (ds : List gz_De) (s : Nat) : Nat → List gz_De
  | 0 => ds
  | k + 1 => lotR T D (lotsR T D ds s k) (lotS s (k + 1))
theorem lotS_lt {s : Nat} (hs : s < 2147483647) : ∀ k, lotS s k < 2147483647
  | 0 => hs
  | k + 1 => Nat.mod_lt _ (by decide)
theorem l_mul (a b : Nat) : lN a * lN b = lN (a * b) := (Int64.ofNat_mul a b).symm
theorem l_i32 {a : Nat} (h : a < 2 ^ 31) : (lN a).toInt32 = nI a := by
  apply Int32.toInt_inj.mp
  rw [Int64.toInt_toInt32, pk_lT (by omega), nI_toInt h, Int.bmod_eq_of_le (by omega) (by omega)]
theorem i_l64 {a : Nat} (h : a < 2 ^ 31) : (nI a).toInt64 = lN a := by
  apply Int64.toInt_inj.mp
  rw [l_of, nI_toInt h, pk_lT (by omega)]
theorem lot_step {s : Nat} (hs : s < 2147483647) : lN s * (48271 : Int64) - lN s * (48271 : Int64) / (2147483647 : Int64) * (2147483647 : Int64) = lN (s * 48271 % 2147483647) := by
  rw [show (48271 : Int64) = lN 48271 from rfl, show (2147483647 : Int64) = lN 2147483647 from rfl, l_mul, pk_lRem (by omega) (by omega) (by omega)]
theorem lot_rem {l n : Nat} (hl : l < 2 ^ 31) (h0 : 0 < n) (hn : n < 2 ^ 31) : (lN l - lN l / (nI n).toInt64 * (nI n).toInt64).toInt32 = nI (l % n) := by
  rw [i_l64 hn, pk_lRem (by omega) h0 (by omega), l_i32 (by have := Nat.mod_lt l h0; omega)]
theorem lot_rem8 {l : Nat} (hl : l < 2 ^ 31) : lg_cmp (lN l / (8 : Int64) - lN l / (8 : Int64) / (4 : Int64) * (4 : Int64)) (0 : Int64) = 0 ↔ l / 8 % 4 = 0 := by
  rw [cmp_eq, show (8 : Int64) = lN 8 from rfl, show (4 : Int64) = lN 4 from rfl, show (0 : Int64) = lN 0 from rfl, pk_lDiv (by omega) (by omega) (by omega), pk_lRem (by omega) (by omega) (by omega), pk_lEQ (by omega) (by omega)]
theorem lot_rem64 {l n : Nat} (hl : l < 2 ^ 31) (h0 : 0 < n) (hn : n < 2 ^ 31) : (lN l / (64 : Int64) - lN l / (64 : Int64) / (nI n).toInt64 * (nI n).toInt64).toInt32 = nI (l / 64 % n) := by
  rw [i_l64 hn, show (64 : Int64) = lN 64 from rfl, pk_lDiv (by omega) (by omega) (by omega), pk_lRem (by omega) h0 (by omega), l_i32 (by have := Nat.mod_lt (l / 64) h0; omega)]
theorem lot_nz {n : Nat} (h0 : 0 < n) (hn : n < 2 ^ 31) : gz_nzL (nI n).toInt64 = true := by
  rw [i_l64 hn]
  unfold gz_nzL
  simp only [Bool.not_eq_true', decide_eq_false_iff_not, bne_iff_ne, ne_eq, decide_eq_true_eq]
  intro z
  have := (pk_lEQ (a := n) (b := 0) (by omega) (by omega)).mp z
  omega
section
variable {h : gz_H} {T : gz_T} {D : gz_D} {ds : List gz_De}
theorem lotD_vd (hG : 0 < T.2.1) (hF : 0 < T.1) {l : Nat} : vd T (lotD T l) := by
  unfold lotD
  by_cases c : l / 8 % 4 = 0
  · rw [if_pos c]; exact vd1 (Nat.mod_lt _ hG)
  · rw [if_neg c]; exact vd0 (Nat.mod_lt _ hG) (Nat.mod_lt _ hF)
theorem lotD_lv {l : Nat} {E : gz_D} (g : (E (l % T.2.1)).2 = false) : lv E (lotD T l) := by
  unfold lotD
  by_cases c : l / 8 % 4 = 0
  · rw [if_pos c]; exact lv1 g
  · rw [if_neg c]; exact lv0 g
theorem lotR_gl (w : wsT T) (g : gl T D ds) (hG : 0 < T.2.1) (hF : 0 < T.1) (hl : ds.length < 40) {l : Nat} : gl T D (lotR T D ds l) := by
  unfold lotR
  by_cases c : (rn T D ds (l % T.2.1)).2 = true
  · rw [if_pos c]; exact g
  · rw [if_neg c]; exact gl_add w g hl (lotD_vd hG hF) (lotD_lv (by simpa using c))
theorem lotR_len {l : Nat} : (lotR T D ds l).length ≤ ds.length + 1 := by
  unfold lotR
  by_cases c : (rn T D ds (l % T.2.1)).2 = true
  · rw [if_pos c]; omega
  · rw [if_neg c]; simp
theorem lotsR_len {s : Nat} : ∀ k, (lotsR T D ds s k).length ≤ ds.length + k
  | 0 => Nat.le_refl _
  | k + 1 => by
    have := lotsR_len (s := s) k
    have b : (lotsR T D ds s (k + 1)).length ≤ (lotsR T D ds s k).length + 1 := lotR_len
    omega
theorem lotsR_gl (w : wsT T) (g : gl T D ds) (hG : 0 < T.2.1) (hF : 0 < T.1) {s n : Nat} (hl : ds.length + n ≤ 40) : ∀ k, k ≤ n → gl T D (lotsR T D ds s k)
  | 0, _ => g
  | k + 1, hk => lotR_gl w (lotsR_gl w g hG hF hl k (by omega)) hG hF (by have := lotsR_len (T := T) (D := D) (ds := ds) (s := s) k; omega)
theorem x_byLot (V : XV h T (rn T D ds)) (L : lgv h 25 ds) (hl : ds.length < 40) (hG : 0 < T.2.1) (hF : 0 < T.1) {l : Nat} (hl2 : l < 2 ^ 31) : ∃ h', fX8_doByLot 0 (lN l) h = some ((), h') ∧ fA h h' ∧ XV h' T (rn T D (lotR T D ds l)) ∧ lgv h' 25 (lotR T D ds l) := by
  have H := V.H
  have b := V.b
  have a1 : h.2.1 28 3 = nI T.2.1 := V.2.2.2.2.1
  have a2 : h.2.1 28 2 = nI T.1 := V.2.2.2.1
  have hi := Nat.mod_lt l hG
  have gg : h.2.1 (31 + 2 * (l % T.2.1)) 5 = (if (rn T D ds (l % T.2.1)).2 = true then 1 else 0) := (V.2.2.2.2.2.2 _ hi).2.2.2.2
  unfold fX8_doByLot fX8_doByLot_0 fX1_hasGeese fX1_hasGeese_0 lotR
  rw [ck_t (sh_0 H), rf_0_9 H, br_s, ck_t (sh_28 H), ck_t (sh_28 H), a1, if_neg (n_le0 (by omega) (by omega)), a2, if_neg (n_le0 (by omega) (by omega)), b2_s, if_neg (by decide), ck_t (sh_0 H), rf_0_9 H, br_s, ck_t (sh_28 H), a1, ck_t (lot_nz hG (by omega)), lt_d, lot_rem hl2 hG (by omega), rf_28_1 H, br_s, ck_t (in_30 H (by omega)), nI_clamp (by omega), rf_30 H (by omega), br_s, ck_t (sgk_31 H (by omega)), gg]
  by_cases c : (rn T D ds (l % T.2.1)).2 = true
  · rw [if_pos c, if_pos c, if_neg (by decide)]
    exact ⟨h, rfl, ⟨rfl, rfl, fun _ _ _ => rfl⟩, V, L⟩
  · rw [if_neg c, if_neg c, if_pos (by decide)]
    have c2 : (rn T D ds (l % T.2.1)).2 = false := by simpa using c
    obtain ⟨h1, e1, f1, V1, L1⟩ := x_doDeed V L hl (lotD_vd (l := l) hG hF) (lotD_lv c2)
    refine ⟨h1, ?_, f1, V1, L1⟩
    unfold lotD at e1
    by_cases d : l / 8 % 4 = 0
    · rw [if_pos d] at e1
      rw [if_pos ((lot_rem8 hl2).mpr d)]
      have e1 : fX8_doDeed 0 (1 : Int32) (nI (l % T.2.1)) (0 : Int32) h = _ := e1
      rw [e1, b2_s]
    · rw [if_neg d] at e1
      rw [if_neg (fun z => d ((lot_rem8 hl2).mp z)), a2, ck_t (lot_nz hF (by omega)), lot_rem64 hl2 hF (by omega)]
      have e1 : fX8_doDeed 0 (0 : Int32) (nI (l % T.2.1)) (nI (l / 64 % T.1)) h = _ := e1
      rw [e1, b2_s]
theorem m_byLot (V : MV h T (rn T D ds)) (mm : mb h 0 T D ds) (w : wsT T) (g : gl T D ds) (hl : ds.length < 40) (hG : 0 < T.2.1) (hF : 0 < T.1) {s : Nat} (hs : s < 2147483647) {m k n : Nat} (hk : k < n) (hn : n ≤ 12) : ∃ h', fX9_lots_58 (m + 1) 85 (nI n) (lN s) (nI k) h = fX9_lots_58 m 85 (nI n) (lN (s * 48271 % 2147483647)) (nI (k + 1)) h' ∧ fB h h' ∧ MV h' T (rn T D (lotR T D ds (s * 48271 % 2147483647))) ∧ mb h' 0 T D (lotR T D ds (s * 48271 % 2147483647)) := by
  have H := V.H
  have b := V.b
  have hl2 : s * 48271 % 2147483647 < 2 ^ 31 := by have := Nat.mod_lt (s * 48271) (show 0 < 2147483647 by decide); omega
  generalize el : s * 48271 % 2147483647 = l at hl2
  have hi := Nat.mod_lt l hG
  have a3 : h.2.1 85 3 = nI T.2.1 := V.n
  rw [fX9_lots_58, if_neg (nI_ge hk (by omega)), lot_step hs, el, lt_d, ck_t (sh_85 H), a3, ck_t (lot_nz hG (by omega)), lot_rem hl2 hG (by omega), lt_d, m_isGone V hi, b2_s]
  unfold fX9_lots_140 lotR
  by_cases c : (rn T D ds (l % T.2.1)).2 = true
  · rw [if_pos c, if_pos c, if_neg (by decide)]
    exact ⟨h, by rw [nI_1], ⟨rfl, rfl, fun _ _ _ _ => rfl, fun _ _ => rfl⟩, V, mm⟩
  · have c2 : (rn T D ds (l % T.2.1)).2 = false := by simpa using c
    obtain ⟨hk1, ek, Wk, e0, fin⟩ := m_past V mm hl
    have Hk := Wk.H
    have gg := gl_add w g hl (lotD_vd (l := l) hG hF) (lotD_lv c2)
    rw [if_neg c, if_neg c, if_pos (by decide), ck_t (sh_85 H), ek, b2_s]
    by_cases d : l / 8 % 4 = 0
    · have ld : lotD T l = (1, l % T.2.1, 0) := if_pos d
      obtain ⟨h2, e2, W2, f2⟩ := m_fright Wk hi c2
      rw [if_pos ((lot_rem8 hl2).mpr d), ck_t (sh_85 Hk), e2, b2_s]
      have W3 : MV h2 T (pf T (rn T D ds) (lotD T l)) := by rw [ld]; exact W2
      obtain ⟨f3, m3⟩ := fin h2 _ gg f2.fM W3
      exact ⟨h2, by rw [nI_1], f3, by rw [rn_add]; exact W3, m3⟩
    · have ld : lotD T l = (0, l % T.2.1, l / 64 % T.1) := if_neg d
      have a4 : hk1.2.1 85 1 = nI T.1 := Wk.f
      obtain ⟨h2, e2, W2, f2⟩ := m_takeE Wk hi (Nat.mod_lt (l / 64) hF) c2
      rw [if_neg (fun z => d ((lot_rem8 hl2).mp z)), ck_t (sh_85 Hk), a4, ck_t (lot_nz hF (by omega)), lot_rem64 hl2 hF (by omega), e2, b2_s]
      have W3 : MV h2 T (pf T (rn T D ds) (lotD T l)) := by rw [ld]; exact W2
      obtain ⟨f3, m3⟩ := fin h2 _ gg f2.fM W3
      exact ⟨h2, by rw [nI_1], f3, by rw [rn_add]; exact W3, m3⟩
theorem fB.tr {h h1 h2 : gz_H} (a : fB h h1) (b : fB h1 h2) : fB h h2 := ⟨b.1.trans a.1, b.2.1.trans a.2.1, fun x k e q => (b.2.2.1 x k e q).trans (a.2.2.1 x k e q), fun k e => (b.2.2.2 k e).trans (a.2.2.2 k e)⟩
theorem x_lotsL (V : XV h T (rn T D ds)) (L : lgv h 25 ds) (hG : 0 < T.2.1) (hF : 0 < T.1) {s n : Nat} (hl : ds.length + n ≤ 40) (hn : n ≤ 12) (hs : s < 2147483647) : ∃ h', fX8_lots_61 gz_fu 0 (nI n) (lN s) (nI 0) h = some (nI (lostN T (rn T D (lotsR T D ds s n))), h') ∧ fA h h' ∧ XV h' T (rn T D (lotsR T D ds s n)) ∧ lgv h' 25 (lotsR T D ds s n) := by
  have b := V.b
  have hfu : n < 0 + gz_fu := by show n < 0 + 100000; omega
  generalize gz_fu = fu at hfu ⊢
  refine lpr (fun m k (q : gz_H) => fX8_lots_61 m 0 (nI n) (lN (lotS s k)) (nI k) q) (fun k q => fA h q ∧ XV q T (rn T D (lotsR T D ds s k)) ∧ lgv q 25 (lotsR T D ds s k)) n (fun r => ∃ h', r = some (nI (lostN T (rn T D (lotsR T D ds s n))), h') ∧ fA h h' ∧ XV h' T (rn T D (lotsR T D ds s n)) ∧ lgv h' 25 (lotsR T D ds s n)) ?_ ?_ fu 0 h (by omega) hfu ⟨⟨rfl, rfl, fun _ _ _ => rfl⟩, V, L⟩
  · intro m q ⟨f, Vq, Lq⟩
    have Hq := Vq.H
    have p2 := p2_lt b.1
    have hs : sd (2 ^ T.1 - 1) (hall (rn T D (lotsR T D ds s n)) T.2.1) < 256 := sd_lt (c := 8) (by omega)
    refine ⟨q, ?_, f, Vq, Lq⟩
    rw [fX8_lots_61, if_pos (nI_le (Nat.le_refl _) (by omega)), ck_t (sh_0 Hq), rf_0_9 Hq, br_s, ck_t (sh_28 Hq), x_heldByNobody Vq, b2_s, t_bc hs, b2_s]
    rfl
  · intro m k q hk ⟨f, Vq, Lq⟩
    have Hq := Vq.H
    have ll := lotsR_len (T := T) (D := D) (ds := ds) (s := s) k
    have h31 := lotS_lt hs (k + 1)
    obtain ⟨h', e, f', V', L'⟩ := x_byLot Vq Lq (by omega) hG hF (l := lotS s (k + 1)) (by omega)
    refine ⟨h', ⟨f.tr f', V', L'⟩, ?_⟩
    show fX8_lots_61 (m + 1) 0 (nI n) (lN (lotS s k)) (nI k) q = _
    rw [fX8_lots_61, if_neg (nI_ge hk (by omega)), lot_step (lotS_lt hs k), lt_d, ck_t (sh_0 Hq)]
    have e' : fX8_doByLot 0 (lN (lotS s k * 48271 % 2147483647)) q = some ((), h') := e
    rw [e', b2_s, nI_1]
    rfl
theorem m_lotsL (V : MV h T (rn T D ds)) (mm : mb h 0 T D ds) (w : wsT T) (g : gl T D ds) (hG : 0 < T.2.1) (hF : 0 < T.1) {s n : Nat} (hl : ds.length + n ≤ 40) (hn : n ≤ 12) (hs : s < 2147483647) : ∃ h', fX9_lots_58 gz_fu 85 (nI n) (lN s) (nI 0) h = some (nI (lostN T (rn T D (lotsR T D ds s n))), h') ∧ fB h h' ∧ mb h' 0 T D (lotsR T D ds s n) := by
  have b := V.b
  have hfu : n < 0 + gz_fu := by show n < 0 + 100000; omega
  generalize gz_fu = fu at hfu ⊢
  refine lpr (fun m k (q : gz_H) => fX9_lots_58 m 85 (nI n) (lN (lotS s k)) (nI k) q) (fun k q => fB h q ∧ MV q T (rn T D (lotsR T D ds s k)) ∧ mb q 0 T D (lotsR T D ds s k)) n (fun r => ∃ h', r = some (nI (lostN T (rn T D (lotsR T D ds s n))), h') ∧ fB h h' ∧ mb h' 0 T D (lotsR T D ds s n)) ?_ ?_ fu 0 h (by omega) hfu ⟨⟨rfl, rfl, fun _ _ _ _ => rfl, fun _ _ => rfl⟩, V, mm⟩
  · intro m q ⟨f, Vq, Lq⟩
    have Hq := Vq.H
    refine ⟨q, ?_, f, Lq⟩
    rw [fX9_lots_58, if_pos (nI_le (Nat.le_refl _) (by omega)), ck_t (sh_85 Hq), m_lostMany Vq, b2_s]
  · intro m k q hk ⟨f, Vq, Lq⟩
    have ll := lotsR_len (T := T) (D := D) (ds := ds) (s := s) k
    have gk := lotsR_gl (s := s) w g hG hF hl k (by omega)
    obtain ⟨h', e, f', V', L'⟩ := m_byLot Vq Lq w gk (by omega) hG hF (lotS_lt hs k) (m := m) hk hn
    exact ⟨h', ⟨f.tr f', V', L'⟩, e⟩
theorem op_lots (I : gz_Iv h) (x1 x2 : Int32) : gz_ag (fX8_lots 0 x1 x2) (fX9_lots 85 x1 x2) h gz_Iv := by
  obtain ⟨T, D, ds, ks, sa, F⟩ := I.2
  have V := F.xv I.1.1
  have W := F.mv I.1.1
  have H := V.H
  have w := V.2.1
  have b := V.b
  have g := F.1.2.2.2.1
  have hl := g.1
  have L := F.2.2.1.2.2.1
  have mm := F.2.2.2.2.1
  have c0 : (0 : Int32).toNatClampNeg = 0 := rfl
  have a1 : h.2.1 28 3 = nI T.2.1 := V.2.2.2.2.1
  have a2 : h.2.1 28 2 = nI T.1 := V.2.2.2.1
  have a3 : h.2.1 85 3 = nI T.2.1 := W.n
  have i1 : ∀ h : gz_H, fX9_in x1.toInt64 (1 : Int64) (12 : Int64) h = some (if 1 ≤ x1.toInt ∧ x1.toInt ≤ 12 then 1 else 0, h) := fun h => p_in x1 1 12 h
  have i2 : ∀ h : gz_H, fX9_in x2.toInt64 (1 : Int64) (2147483646 : Int64) h = some (if 1 ≤ x2.toInt ∧ x2.toInt ≤ 2147483646 then 1 else 0, h) := fun h => p_in x2 1 2147483646 h
  have l1 : x1 < (1 : Int32) ↔ x1.toInt < 1 := by rw [Int32.lt_iff_toInt_lt]; rfl
  have l2 : (12 : Int32) < x1 ↔ 12 < x1.toInt := by rw [Int32.lt_iff_toInt_lt]; rfl
  have l3 : x2 < (1 : Int32) ↔ x2.toInt < 1 := by rw [Int32.lt_iff_toInt_lt]; rfl
  have l4 : x2 ≤ (2147483646 : Int32) ↔ x2.toInt ≤ 2147483646 := by rw [Int32.le_iff_toInt_le]; rfl
  by_cases c1 : 1 ≤ x1.toInt ∧ x1.toInt ≤ 12
  · by_cases c2 : 1 ≤ x2.toInt ∧ x2.toInt ≤ 2147483646
    · obtain ⟨n, hn, rfl⟩ := n_of0 (x := x1) (m := 12) (by omega) (by omega) (by decide)
      obtain ⟨s, hs, rfl⟩ : ∃ s : Nat, s < 2147483647 ∧ x2 = nI s := by
        rcases p_cases x2 2147483647 (by omega) with q | ⟨j, hj, e⟩
        · have := p_out_toInt (by omega) q
          omega
        · exact ⟨j, hj, e⟩
      have M0 : ∀ h1 : gz_H, MV h1 T (rn T D ds) → h1.2.1 86 0 = nI ds.length → fX9_lots 85 (nI n) (nI s) h1 = if nI T.2.1 = 0 then some (-4, h1) else if nI ds.length + nI n ≤ (40 : Int32) then fX9_lots_58 gz_fu 85 (nI n) (nI s).toInt64 (0 : Int32) h1 else some (-2, h1) := by
        intro h1 W1 e0
        have H1 := W1.H
        have a3 : h1.2.1 85 3 = nI T.2.1 := W1.n
        unfold fX9_lots fX9_lots_0
        rw [i1, if_pos c1, b2_s, if_neg (by decide), i2, if_pos c2, b2_s, if_neg (by decide), ck_t (sh_85 H1), a3, rf_85_0 H1, br_s, ck_t (show gz_inb h1 86 10 (0 : Int32) = true from in_86 H1 (j := 0) (by decide)), c0, e0]
      by_cases z : T.2.1 = 0
      · refine ag_no I (y := -4) ?_ ?_
        · unfold fX8_lots fX8_lots_0 fX1_hasGeese fX1_hasGeese_0
          rw [if_neg (fun q => absurd (l1.mp q) (by omega)), if_neg (fun q => absurd (l2.mp q) (by omega)), if_neg (fun q => absurd (l3.mp q) (by omega)), if_pos (l4.mpr (by omega)), ck_t (sh_0 H), rf_0_9 H, br_s, ck_t (sh_28 H), ck_t (sh_28 H), a1, z, if_pos (by decide), b2_s, if_pos (by decide)]
        · rw [M0 h W mm.1, z, if_pos (by decide)]
      · have z' : ¬ T.1 = 0 := fun q => z (w.2.2.1.mp q)
        have X0 : fX8_lots 0 (nI n) (nI s) h = if nI ds.length + nI n ≤ (40 : Int32) then fX8_lots_61 gz_fu 0 (nI n) (nI s).toInt64 (0 : Int32) h else some (-2, h) := by
          unfold fX8_lots fX8_lots_0 fX1_hasGeese fX1_hasGeese_0
          rw [if_neg (fun q => absurd (l1.mp q) (by omega)), if_neg (fun q => absurd (l2.mp q) (by omega)), if_neg (fun q => absurd (l3.mp q) (by omega)), if_pos (l4.mpr (by omega)), ck_t (sh_0 H), rf_0_9 H, br_s, ck_t (sh_28 H), ck_t (sh_28 H), a1, if_neg (n_le0 (by omega) (by omega)), a2, if_neg (n_le0 (by omega) (by omega)), b2_s, if_neg (by decide), ck_t (sh_0 H), rf_0_7 H, br_s, ck_t (sh_25 H), L.1]
        have zn : ¬ nI T.2.1 = 0 := fun q => z ((nI_z (by omega)).mp q)
        by_cases y : ds.length + n ≤ 40
        · have yy : nI ds.length + nI n ≤ (40 : Int32) := by rw [nI_add]; exact nI_le y (by decide)
          obtain ⟨h1, e1, f1, V1, L1⟩ := x_lotsL V L (by omega) (by omega) y hn hs
          have H1 := V1.H
          have mm1 : mb h1 0 T D ds := mm.cg (fun k => f1.2.2 86 k (by omega))
          have W1 : MV h1 T (rn T D ds) := ⟨H1, w, V.2.2.1, by
            obtain ⟨b1, b2, b3, b4⟩ := F.2.2.2.1
            exact ⟨by rw [f1.2.2 85 1 (by omega)]; exact b1, by rw [f1.2.2 85 3 (by omega)]; exact b2, fun k hk => by rw [f1.2.2 87 k (by omega)]; exact b3 k hk, fun i hi => by rw [f1.2.2 88 i (by omega), f1.2.2 89 i (by omega), f1.2.2 90 i (by omega)]; exact b4 i hi⟩, mm1.2.1⟩
          obtain ⟨h2, e2, f2, m2⟩ := m_lotsL W1 mm1 w g (by omega) (by omega) y hn hs
          refine ⟨nI (lostN T (rn T D (lotsR T D ds s n))), h1, h2, ?_, f1.1.trans H.1, ?_, asm I.1 F f1 f2 (lotsR_gl w g (by omega) (by omega) y n (Nat.le_refl _)) V1.2.2.2 L1 m2⟩
          · rw [X0, if_pos yy, i_l64 (by omega)]; exact e1
          · rw [M0 h1 W1 mm1.1, if_neg zn, if_pos yy, i_l64 (by omega)]; exact e2
        · have yy : ¬ nI ds.length + nI n ≤ (40 : Int32) := by rw [nI_add]; exact nI_ge (a := 40) (by omega) (by omega)
          refine ag_no I (y := -2) ?_ ?_
          · rw [X0, if_neg yy]
          · rw [M0 h W mm.1, if_neg zn, if_neg yy]
    · refine ag_no I (y := -1) ?_ ?_
      · unfold fX8_lots fX8_lots_0
        rw [if_neg (fun q => absurd (l1.mp q) (by omega)), if_neg (fun q => absurd (l2.mp q) (by omega))]
        by_cases q : x2 < (1 : Int32)
        · rw [if_pos q]
        · rw [if_neg q, if_neg (fun r => c2 ⟨by have : ¬ x2.toInt < 1 := fun z => q (l3.mpr z); omega, l4.mp r⟩)]
      · unfold fX9_lots fX9_lots_0
        rw [i1, if_pos c1, b2_s, if_neg (by decide), i2, if_neg c2, b2_s, if_pos (by decide)]
  · refine ag_no I (y := -1) ?_ ?_
    · unfold fX8_lots fX8_lots_0
      by_cases q : x1 < (1 : Int32)
      · rw [if_pos q]
      · rw [if_neg q, if_pos (l2.mpr (by have : ¬ x1.toInt < 1 := fun z => q (l1.mpr z); omega))]
    · unfold fX9_lots fX9_lots_0
      rw [i1, if_neg c1, b2_s, if_pos (by decide)]
end
