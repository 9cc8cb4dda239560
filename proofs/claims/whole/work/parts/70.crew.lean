/-! PURE: crew agrees -/
def enc : Option Nat → Int32
  | none => -9
  | some b => nI b
def fewer (o : Option Nat) (k : Nat) : Bool := match o with
  | none => true
  | some b => decide (pc k < pc b)
def crB (ok : Nat → Bool) : Nat → Option Nat
  | 0 => none
  | k + 1 => if (fewer (crB ok k) k && ok k) = true then some k else crB ok k
theorem crB_lt {ok : Nat → Bool} : ∀ {k b : Nat}, crB ok k = some b → b < k := by
  intro k
  induction k with
  | zero => intro b e; exact absurd e (by simp [crB])
  | succ k ih =>
    intro b e
    rw [crB] at e
    by_cases c : (fewer (crB ok k) k && ok k) = true
    · rw [if_pos c] at e
      have := Option.some.inj e
      omega
    · rw [if_neg c] at e
      have := ih e
      omega
theorem n_ne9 (n : Nat) (hn : n < 2 ^ 31) : ¬ nI n = -9 := fun e => by
  have := congrArg Int32.toInt e
  rw [nI_toInt hn] at this
  simp at this
theorem enc_n : enc none = (-9 : Int32) := rfl
theorem enc_ne {c : Nat} (hc : c < 2 ^ 31) : ¬ enc (some c) = (-9 : Int32) := n_ne9 c hc
theorem sc_both {h h' : gz_H} (s : sc h h') {a k : Nat} {v : Int32} : sc (uI h a k v) (uI h' a k v) := ⟨s.1, s.2.1, fun x j q => by
  rw [uI_I, uI_I]
  by_cases c : x = a ∧ j = k
  · rw [if_pos c, if_pos c]
  · rw [if_neg c, if_neg c]; exact s.2.2 x j q⟩
section
variable {h : gz_H} {T : gz_T} {E : gz_D}
def crOk (T : gz_T) (E : gz_D) (s k : Nat) : Bool := decide (sd s (fo (fun i => if k.testBit i then tb T E i else 0) T.2.1) = 0)
theorem x_crewS (V : XV h T E) (g1 : ∀ i, i < 6 → h.2.1 73 i = nI (if i < T.2.1 then tb T E i else 0)) {s k m : Nat} (hs : s < 2 ^ T.1) (hk : k < 2 ^ T.2.1) {o : Option Nat} (ho : ∀ b, o = some b → b < k) : fX8_crew_22 (m + 1) 0 (nI s) (enc o) (nI k) h = fX8_crew_22 m 0 (nI s) (enc (if (fewer o k && crOk T E s k) = true then some k else o)) (nI (k + 1)) h := by
  have H := V.H
  have b := V.b
  have p2 := p2_lt (k := T.2.1) (by omega)
  have p1 := p2_lt b.1
  have e9 : (1 : Int32) <<< (nI T.2.1 &&& 31) = nI (2 ^ T.2.1) := nI_shl (by omega)
  have e3 := x_joined H (Or.inl rfl) g1 (x := nI k) (p := fun i => k.testBit i) (fun i hi => nI_bts (by omega) (by omega))
  rw [fo_tb b.2] at e3
  have hsd : sd s (fo (fun i => if k.testBit i then tb T E i else 0) T.2.1) < 256 := sd_lt (c := 8) (by omega)
  have K : ∀ kk : Nat → Int32 → Int32 → Int32 → gz_H → Option (Int32 × gz_H), fX8_crew_52 kk 0 (nI s) (enc o) (nI k) h = kk 0 (nI s) (enc (if crOk T E s k = true then some k else o)) (nI (k + 1)) h := by
    intro kk
    unfold fX8_crew_52 fX8_crew_57 fX8_crew_81 crOk
    rw [if_neg (by decide), ck_t (sh_0 H), rf_0_12 H, br_s, e3, b2_s, nI_nand, nI_1]
    by_cases c : sd s (fo (fun i => if k.testBit i then tb T E i else 0) T.2.1) = 0
    · rw [if_pos ((nI_z (by omega)).mpr c), if_pos (decide_eq_true c)]
      rfl
    · rw [if_neg (fun z => c ((nI_z (by omega)).mp z)), if_neg (by simpa using c)]
  rw [fX8_crew_22, ck_t (sh_0 H), rf_0_9 H, br_s, ck_t (sh_28 H), V.n, e9, if_neg (nI_ge hk (by omega))]
  cases o with
  | none =>
    rw [if_pos enc_n, K]
    rfl
  | some c =>
    have hc := ho c rfl
    have hcl : fewer (some c) k = decide (pc k < pc c) := rfl
    have q1 := pc_le k
    have q2 := pc_le c
    rw [if_neg (enc_ne (by omega)), t_bc (by omega), b2_s]
    show gz_b2 (fJ6_bitCount_0f7a4 (nI c) h) _ = _
    rw [t_bc (by omega), b2_s]
    by_cases d : pc k < pc c
    · rw [if_neg (nI_ge d (by omega)), K, hcl, decide_eq_true d, Bool.true_and]
    · rw [if_pos (nI_le (by omega) (by omega)), hcl, decide_eq_false d, Bool.false_and, if_neg (by decide)]
      unfold fX8_crew_57 fX8_crew_81
      rw [if_pos rfl, nI_1]
theorem x_crewL (V : XV h T E) (g1 : ∀ i, i < 6 → h.2.1 73 i = nI (if i < T.2.1 then tb T E i else 0)) {s : Nat} (hs : s < 2 ^ T.1) : fX8_crew_22 gz_fu 0 (nI s) (-9 : Int32) (0 : Int32) h = match crB (crOk T E s) (2 ^ T.2.1) with
    | none => some (-9, h)
    | some b => some (nI (pc b), uI h 0 18 (nI b)) := by
  have H := V.H
  have b := V.b
  have p2 := p2_lt (k := T.2.1) (by omega)
  have e9 : (1 : Int32) <<< (nI T.2.1 &&& 31) = nI (2 ^ T.2.1) := nI_shl (by omega)
  have hfu : 2 ^ T.2.1 < 0 + gz_fu := by show 2 ^ T.2.1 < 0 + 100000; omega
  generalize gz_fu = fu at hfu ⊢
  refine lp (fun m k (o : Option Nat) => fX8_crew_22 m 0 (nI s) (enc o) (nI k) h) (fun k => crB (crOk T E s) k) (2 ^ T.2.1) _ ?_ ?_ fu 0 (by omega) hfu
  · intro m
    show fX8_crew_22 (m + 1) 0 (nI s) (enc (crB (crOk T E s) (2 ^ T.2.1))) (nI (2 ^ T.2.1)) h = _
    rw [fX8_crew_22, ck_t (sh_0 H), rf_0_9 H, br_s, ck_t (sh_28 H), V.n, e9, if_pos (nI_le (Nat.le_refl _) (by omega))]
    cases e : crB (crOk T E s) (2 ^ T.2.1) with
    | none => rw [if_pos enc_n]
    | some c =>
      have hc := crB_lt e
      show (if nI c = (-9 : Int32) then _ else _) = _
      rw [if_neg (n_ne9 c (by omega)), lt_d]
      show gz_b2 (fJ6_bitCount_0f7a4 (nI c) (uI h 0 18 (nI c))) _ = _
      rw [t_bc (by omega), b2_s]
  · intro m k hk
    exact x_crewS V g1 hs hk (fun b hb => crB_lt hb)
theorem m_crewS (V : MV h T E) {s k m : Nat} (hs : s < 2 ^ T.1) (hk : k < 2 ^ T.2.1) {o : Option Nat} (ho : ∀ b, o = some b → b < k) : ∃ h', fX9_crew_15 (m + 1) 85 (nI s) (enc o) (nI k) h = fX9_crew_15 m 85 (nI s) (enc (if (fewer o k && crOk T E s k) = true then some k else o)) (nI (k + 1)) h' ∧ sc h h' := by
  have H := V.H
  have b := V.b
  have p2 := p2_lt (k := T.2.1) (by omega)
  have p1 := p2_lt b.1
  have e9 : (1 : Int32) <<< (nI T.2.1 &&& 31) = nI (2 ^ T.2.1) := nI_shl (by omega)
  obtain ⟨h2, e2, s2⟩ := m_toldByAll V (s := k) (by omega)
  have hsd : sd s (fo (fun i => if k.testBit i then tb T E i else 0) T.2.1) < 256 := sd_lt (c := 8) (by omega)
  have K : ∀ kk : Nat → Int32 → Int32 → Int32 → gz_H → Option (Int32 × gz_H), fX9_crew_42 kk 85 (nI s) (enc o) (nI k) h = kk 85 (nI s) (enc (if crOk T E s k = true then some k else o)) (nI (k + 1)) h2 := by
    intro kk
    unfold fX9_crew_42 fX9_crew_47 fX9_crew_70 fX9_crew_71 crOk
    rw [if_neg (by decide), ck_t (sh_85 H), e2, b2_s, nI_nand, nI_1]
    by_cases c : sd s (fo (fun i => if k.testBit i then tb T E i else 0) T.2.1) = 0
    · rw [if_pos ((nI_z (by omega)).mpr c), if_pos (decide_eq_true c)]
      rfl
    · rw [if_neg (fun z => c ((nI_z (by omega)).mp z)), if_neg (by simpa using c)]
  rw [fX9_crew_15, ck_t (sh_85 H), V.n, e9, if_neg (nI_ge hk (by omega))]
  cases o with
  | none =>
    refine ⟨h2, ?_, s2⟩
    rw [if_pos enc_n, K]
    rfl
  | some c =>
    have hc := ho c rfl
    have hcl : fewer (some c) k = decide (pc k < pc c) := rfl
    have q1 := pc_le k
    have q2 := pc_le c
    rw [if_neg (enc_ne (by omega)), t_bits (by omega), b2_s, show enc (some c) = nI c from rfl, t_bits (by omega), b2_s]
    by_cases d : pc k < pc c
    · refine ⟨h2, ?_, s2⟩
      rw [if_neg (nI_ge d (by omega)), show nI c = enc (some c) from rfl, K, hcl, decide_eq_true d, Bool.true_and]
    · refine ⟨h, ?_, sc.rf⟩
      rw [if_pos (nI_le (by omega) (by omega)), hcl, decide_eq_false d, Bool.false_and, if_neg (by decide)]
      unfold fX9_crew_47 fX9_crew_70 fX9_crew_71
      rw [if_pos rfl, nI_1]
      rfl
theorem m_crewL (V : MV h T E) {s : Nat} (hs : s < 2 ^ T.1) : ∃ h', sc h h' ∧ fX9_crew_15 gz_fu 85 (nI s) (-9 : Int32) (0 : Int32) h = match crB (crOk T E s) (2 ^ T.2.1) with
    | none => some (-9, uI h' 85 11 (h'.2.1 85 11))
    | some b => some (nI (pc b), uI h' 85 11 (nI b)) := by
  have b := V.b
  have p2 := p2_lt (k := T.2.1) (by omega)
  have e9 : (1 : Int32) <<< (nI T.2.1 &&& 31) = nI (2 ^ T.2.1) := nI_shl (by omega)
  have hfu : 2 ^ T.2.1 < 0 + gz_fu := by show 2 ^ T.2.1 < 0 + 100000; omega
  generalize gz_fu = fu at hfu ⊢
  refine lpr (fun m k (q : gz_H) => fX9_crew_15 m 85 (nI s) (enc (crB (crOk T E s) k)) (nI k) q) (fun k q => sc h q) (2 ^ T.2.1) (fun r => ∃ h', sc h h' ∧ r = match crB (crOk T E s) (2 ^ T.2.1) with
    | none => some (-9, uI h' 85 11 (h'.2.1 85 11))
    | some b => some (nI (pc b), uI h' 85 11 (nI b))) ?_ ?_ fu 0 h (by omega) hfu sc.rf
  · intro m q sq
    have W := V.sc sq
    have H := W.H
    refine ⟨q, sq, ?_⟩
    rw [fX9_crew_15, ck_t (sh_85 H), W.n, e9, if_pos (nI_le (Nat.le_refl _) (by omega))]
    unfold fX9_crew_93
    cases e : crB (crOk T E s) (2 ^ T.2.1) with
    | none => rw [if_pos enc_n, ck_t (sh_85 H), lt_d, if_pos enc_n]
    | some c =>
      have hc := crB_lt e
      show (if nI c = (-9 : Int32) then _ else _) = _
      rw [if_neg (n_ne9 c (by omega)), ck_t (sh_85 H), lt_d, show enc (some c) = nI c from rfl, if_neg (n_ne9 c (by omega)), t_bits (by omega), b2_s]
  · intro m k q hk sq
    obtain ⟨h', e, s'⟩ := m_crewS (V.sc sq) (m := m) hs hk (o := crB (crOk T E s) k) (fun b hb => crB_lt hb)
    exact ⟨h', sq.tr s', e⟩
theorem op_crew (I : gz_Iv h) (x1 : Int32) : gz_ag (fX8_crew 0 x1) (fX9_crew 85 x1) h gz_Iv := by
  obtain ⟨T, D, ds, ks, sa, F⟩ := I.2
  have V := F.xv I.1.1
  have W := F.mv I.1.1
  have H := V.H
  have b := V.b
  have p1 := p2_lt b.1
  rcases p_cases x1 (2 ^ T.1) (by omega) with hx | ⟨s, hs, rfl⟩
  · refine q_same I (v := -1) fun _ _ _ _ => ⟨h, h, ?_, sc.rf, ?_, sc.rf⟩
    · unfold fX8_crew fX8_crew_0
      rw [ck_t (sh_0 H), rf_0_9 H, br_s, ck_t (sh_28 H), x_fset_out V hx, b2_s, if_pos (by decide)]
    · unfold fX9_crew fX9_crew_0
      rw [ck_t (sh_85 H), m_set_out W hx, b2_s, if_pos (by decide)]
  · obtain ⟨h1, e1, s1, g1⟩ := x_hearAll V
    have V1 := V.sc s1
    have X : fX8_crew 0 (nI s) h = fX8_crew_22 gz_fu 0 (nI s) (-9 : Int32) (0 : Int32) h1 := by
      unfold fX8_crew fX8_crew_0
      rw [ck_t (sh_0 H), rf_0_9 H, br_s, ck_t (sh_28 H), x_fset_in V hs, b2_s, if_neg (by decide), ck_t (sh_0 H), e1, b2_s]
    have M : ∀ q, MV q T (rn T D ds) → fX9_crew 85 (nI s) q = fX9_crew_15 gz_fu 85 (nI s) (-9 : Int32) (0 : Int32) q := by
      intro q Wq
      have Hq := Wq.H
      unfold fX9_crew fX9_crew_0
      rw [ck_t (sh_85 Hq), m_set_in Wq hs, b2_s, if_neg (by decide)]
    have X2 := x_crewL V1 g1 hs
    rw [← X] at X2
    cases e : crB (crOk T (rn T D ds) s) (2 ^ T.2.1) with
    | none =>
      rw [e] at X2
      obtain ⟨h2, s2, M2⟩ := m_crewL (W.sc s1) hs
      rw [e] at M2
      refine q_same I (v := -9) fun _ _ _ _ => ⟨h1, _, X2, s1, (M _ (W.sc s1)).trans M2, s2.1, s2.2.1, fun a k q => ?_⟩
      rw [uI_I]
      by_cases c : a = 85 ∧ k = 11
      · rw [if_pos c, c.1, c.2, s2.2.2 85 11 (by unfold scr; omega)]
      · rw [if_neg c]; exact s2.2.2 a k q
    | some c =>
      rw [e] at X2
      have W2 : MV (uI h1 0 18 (nI c)) T (rn T D ds) := (W.sc s1).kp kp.ask
      obtain ⟨h2, s2, M2⟩ := m_crewL W2 hs
      rw [e] at M2
      exact q_ask I (v := nI (pc c)) (w := nI c) fun _ _ _ _ => ⟨_, _, X2, (sc_both s1), (M _ W2).trans M2, (sc_both s2)⟩
end
