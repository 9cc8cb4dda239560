/-! PURE: the flock of now, as the class and as the reference have it -/
/-- cells that are only scratch -/
def scr (a k : Nat) : Prop := (73 ≤ a ∧ a ≤ 78) ∨ (21 ≤ a ∧ a ≤ 24) ∨ (a = 85 ∧ k = 25) ∨ (100 ≤ a ∧ a ≤ 102)
def sc (h h' : gz_H) : Prop := h'.1 = h.1 ∧ h'.2.2 = h.2.2 ∧ ∀ a k, ¬ scr a k → h'.2.1 a k = h.2.1 a k
theorem sc.rf {h : gz_H} : sc h h := ⟨rfl, rfl, fun _ _ _ => rfl⟩
theorem sc.tr {h h1 h2 : gz_H} (a : sc h h1) (b : sc h1 h2) : sc h h2 := ⟨b.1.trans a.1, b.2.1.trans a.2.1, fun x k e => (b.2.2 x k e).trans (a.2.2 x k e)⟩
theorem sc.uI {h : gz_H} {a k : Nat} {v : Int32} (e : scr a k) : sc h (uI h a k v) := ⟨rfl, rfl, fun x j q => uI_ne (fun z => q (by rw [z.1, z.2]; exact e))⟩
theorem sc.uF {h : gz_H} {a : Nat} {f : Nat → Int32} (e : ∀ k, scr a k) : sc h (uF h a f) := ⟨rfl, rfl, fun x j q => uF_ne (fun z => q (by rw [z]; exact e j))⟩
theorem sc.la {h h' : gz_H} (s : sc h h') (H : gz_La h) : gz_La h' := H.of s.1 (congrArg Prod.snd s.2.1)
theorem sc.st {h h' : gz_H} (s : sc h h') (I : gz_In h) : gz_St h h' := by
  obtain ⟨H, F, Rw, Tx, Sc⟩ := I
  have e := s.2.2
  unfold scr at e
  exact ⟨⟨s.la H, F.cg (fun a k ha => e a k (by omega)), Rw.cg (fun a k ha => e a k (by omega)), Tx.cg (fun a k ha => e a k (by omega)), Sc.cg (fun a k ha => e a k (by omega)) (congrArg Prod.fst s.2.1)⟩, congrArg Prod.snd s.2.1, fun a k ha => e a k (by unfold gz_ff at ha; omega)⟩
def XV (h : gz_H) (T : gz_T) (E : gz_D) : Prop := gz_La h ∧ wsT T ∧ wd T E ∧ xv h 28 T E
def MV (h : gz_H) (T : gz_T) (E : gz_D) : Prop := gz_La h ∧ wsT T ∧ wd T E ∧ msv h T ∧ mv h 0 T.2.1 E
theorem XV.sc {h h' : gz_H} {T : gz_T} {E : gz_D} (V : XV h T E) (s : sc h h') : XV h' T E := by
  obtain ⟨H, w, d, x⟩ := V
  have e := s.2.2
  unfold scr at e
  exact ⟨s.la H, w, d, x.cg w.2.1 s.1 (congrArg Prod.snd s.2.1) (fun a k h1 h2 => e a k (by omega))⟩
theorem MV.sc {h h' : gz_H} {T : gz_T} {E : gz_D} (V : MV h T E) (s : sc h h') : MV h' T E := by
  obtain ⟨H, w, d, ⟨b1, b2, b3, b4⟩, x⟩ := V
  have e := s.2.2
  unfold scr at e
  refine ⟨s.la H, w, d, ⟨by rw [e 85 1 (by omega)]; exact b1, by rw [e 85 3 (by omega)]; exact b2, fun k hk => by rw [e 87 k (by omega)]; exact b3 k hk, fun i hi => ?_⟩, x.cg (fun k => e 86 k (by omega))⟩
  rw [e 88 i (by omega), e 89 i (by omega), e 90 i (by omega)]
  exact b4 i hi
/-- the flock's cells are kept -/
def kp (h h' : gz_H) : Prop := h'.1 = h.1 ∧ h'.2.2.2 = h.2.2.2 ∧ ∀ a k, gz_ff a k → h'.2.1 a k = h.2.1 a k
theorem kp.tr {h h1 h2 : gz_H} (a : kp h h1) (b : kp h1 h2) : kp h h2 := ⟨b.1.trans a.1, b.2.1.trans a.2.1, fun x k e => (b.2.2 x k e).trans (a.2.2 x k e)⟩
theorem sc.kp {h h' : gz_H} (s : sc h h') : kp h h' := ⟨s.1, congrArg Prod.snd s.2.1, fun a k e => s.2.2 a k (by unfold scr; unfold gz_ff at e; omega)⟩
theorem kp.wr {h : gz_H} {a k : Nat} {v : Int32} (e : ¬ gz_ff a k) : kp h (uI h a k v) := ⟨rfl, rfl, fun x j q => uI_ne (fun z => e (by rw [← z.1, ← z.2]; exact q))⟩
theorem kp.ask {h : gz_H} {v : Int32} : kp h (uI h 0 18 v) := kp.wr (by unfold gz_ff; omega)
theorem kp.xf {h : gz_H} {f : Nat} : kp h (gz_xf h f) := ⟨rfl, rfl, fun a k e => gz_xf_I a k (by unfold gz_ff at e; omega) (by unfold gz_ff at e; omega)⟩
theorem XV.kp {h h' : gz_H} {T : gz_T} {E : gz_D} (V : XV h T E) (s : kp h h') : XV h' T E := by
  obtain ⟨H, w, d, x⟩ := V
  have e := s.2.2
  unfold gz_ff at e
  exact ⟨H.of s.1 s.2.1, w, d, x.cg w.2.1 s.1 s.2.1 (fun a k h1 h2 => e a k (by omega))⟩
theorem MV.kp {h h' : gz_H} {T : gz_T} {E : gz_D} (V : MV h T E) (s : kp h h') : MV h' T E := by
  obtain ⟨H, w, d, ⟨b1, b2, b3, b4⟩, x⟩ := V
  have e := s.2.2
  unfold gz_ff at e
  refine ⟨H.of s.1 s.2.1, w, d, ⟨by rw [e 85 1 (by omega)]; exact b1, by rw [e 85 3 (by omega)]; exact b2, fun k hk => by rw [e 87 k (by omega)]; exact b3 k hk, fun i hi => ?_⟩, x.cg (fun k => e 86 k (by omega))⟩
  rw [e 88 i (by omega), e 89 i (by omega), e 90 i (by omega)]
  exact b4 i hi
theorem gz_Fv.xv {h : gz_H} {T : gz_T} {D : gz_D} {ds : List gz_De} {ks : Nat → Option (List gz_De)} {sa : Nat} (H : gz_La h) (F : gz_Fv h T D ds ks sa) : XV h T (rn T D ds) := ⟨H, F.1.1, by have := F.1.2.2.2.1.2.2.1 ds.length (Nat.le_refl _); rw [List.take_length] at this; exact this, F.2.2.1.2.1⟩
theorem gz_Fv.mv {h : gz_H} {T : gz_T} {D : gz_D} {ds : List gz_De} {ks : Nat → Option (List gz_De)} {sa : Nat} (H : gz_La h) (F : gz_Fv h T D ds ks sa) : MV h T (rn T D ds) := ⟨H, F.1.1, (F.xv H).2.2.1, F.2.2.2.1, F.2.2.2.2.1.2.1⟩
/-- a question: both answer v, and only scratch and what was asked changes -/
theorem q_same {h : gz_H} (I : gz_Iv h) {α : Type} {v : α} {X M : gz_H → Option (α × gz_H)} (x : ∀ T E, XV h T E → MV h T E → ∃ h1 h2, X h = some (v, h1) ∧ sc h h1 ∧ (M h1 = some (v, h2)) ∧ sc h1 h2) : gz_ag X M h gz_Iv := by
  obtain ⟨T, D, ds, ks, sa, F⟩ := I.2
  obtain ⟨h1, h2, e1, s1, e2, s2⟩ := x T _ (F.xv I.1.1) (F.mv I.1.1)
  exact ⟨v, h1, h2, e1, s1.1.trans I.1.1.1, e2, ((s1.tr s2).st I.1).iv I⟩
/-- a question with an answer asked for -/
theorem q_ask {h : gz_H} (I : gz_Iv h) {α : Type} {v : α} {w : Int32} {X M : gz_H → Option (α × gz_H)} (x : ∀ T E, XV h T E → MV h T E → ∃ h1 h2, X h = some (v, h1) ∧ sc (uI h 0 18 w) h1 ∧ (M h1 = some (v, h2)) ∧ sc (uI h1 85 11 w) h2) : gz_ag X M h gz_Iv := by
  obtain ⟨T, D, ds, ks, sa, F⟩ := I.2
  obtain ⟨h1, h2, e1, s1, e2, s2⟩ := x T _ (F.xv I.1.1) (F.mv I.1.1)
  have S := st_ask (v := w) I.1 (gz_St.rf I.1)
  have s3 : sc (uI (uI h 0 18 w) 85 11 w) (uI h1 85 11 w) := ⟨s1.1, s1.2.1, fun a k q => by
    by_cases e : a = 85 ∧ k = 11
    · rw [uI_to e, uI_to e]
    · rw [uI_ne e, uI_ne e]; exact s1.2.2 a k q⟩
  have S2 := (s3.tr s2).st S.1
  refine ⟨v, h1, h2, e1, s1.1.trans I.1.1.1, e2, gz_St.iv (h := h) ⟨S2.1, S2.2.1.trans S.2.1, fun a k f => (S2.2.2 a k f).trans (S.2.2 a k f)⟩ I⟩
section
variable {h : gz_H} {T : gz_T} {E : gz_D}
theorem XV.H (V : XV h T E) : gz_La h := V.1
theorem XV.n (V : XV h T E) : h.2.1 28 3 = nI T.2.1 := V.2.2.2.2.1
theorem XV.f (V : XV h T E) : h.2.1 28 2 = nI T.1 := V.2.2.2.1
theorem XV.pl (V : XV h T E) (k : Nat) (hk : k < T.1) : h.2.1 29 k = nI (T.2.2.1 k) := V.2.2.2.2.2.1 k hk
theorem XV.gv (V : XV h T E) (i : Nat) (hi : i < T.2.1) : gv h (31 + 2 * i) (E i).1 := (V.2.2.2.2.2.2 i hi).1
theorem XV.mn (V : XV h T E) (i : Nat) (hi : i < T.2.1) : h.2.1 (31 + 2 * i) 1 = nI (E i).1.length := (V.gv i hi).2.2.2.2.1
theorem XV.fc (V : XV h T E) (i k : Nat) (hi : i < T.2.1) (hk : k < (E i).1.length) : h.2.1 (31 + 2 * i + 1) k = nI ((E i).1.getD k 0) := (V.gv i hi).2.2.2.2.2 k hk
theorem XV.kd (V : XV h T E) (i : Nat) (hi : i < T.2.1) : h.2.1 (31 + 2 * i) 2 = nI (T.2.2.2.1 i) := (V.2.2.2.2.2.2 i hi).2.1
theorem XV.mo (V : XV h T E) (i : Nat) (hi : i < T.2.1) : h.2.1 (31 + 2 * i) 3 = nI (T.2.2.2.2.1 i) := (V.2.2.2.2.2.2 i hi).2.2.1
theorem XV.rk (V : XV h T E) (i : Nat) (hi : i < T.2.1) : h.2.1 (31 + 2 * i) 4 = nI (T.2.2.2.2.2 i) := (V.2.2.2.2.2.2 i hi).2.2.2.1
theorem XV.gn (V : XV h T E) (i : Nat) (hi : i < T.2.1) : h.2.1 (31 + 2 * i) 5 = nI (if (E i).2 = true then 1 else 0) := by
  rw [← nI_if]; exact (V.2.2.2.2.2.2 i hi).2.2.2.2
theorem XV.b (V : XV h T E) : T.1 ≤ 8 ∧ T.2.1 ≤ 6 := ⟨V.2.1.1, V.2.1.2.1⟩
theorem wsT.bi (w : wsT T) (i : Nat) (hi : i < T.2.1) : T.2.2.2.1 i ≤ 5 ∧ 1 ≤ T.2.2.2.2.1 i ∧ T.2.2.2.2.1 i ≤ 8 ∧ T.2.2.2.2.2 i ≤ 9 := w.2.2.2.2 i hi
theorem XV.bi (V : XV h T E) (i : Nat) (hi : i < T.2.1) : T.2.2.2.1 i ≤ 5 ∧ 1 ≤ T.2.2.2.2.1 i ∧ T.2.2.2.2.1 i ≤ 8 ∧ T.2.2.2.2.2 i ≤ 9 ∧ (E i).1.length ≤ 8 ∧ (E i).1.length ≤ T.2.2.2.2.1 i := by
  have a := V.2.1.2.2.2.2 i hi
  have b := (V.2.2.1 i hi).1
  omega
theorem wd.bf {f : Nat} (w : wsT T) (d : wd T E) (i : Nat) (hi : i < T.2.1) (hf : f ∈ (E i).1) : f < T.1 ∧ f < 8 := by
  have a := (d i hi).2.2.1 f hf
  have b := w.1
  omega
theorem wd.bk (w : wsT T) (d : wd T E) (i k : Nat) (hi : i < T.2.1) (hk : k < (E i).1.length) : (E i).1.getD k 0 < T.1 ∧ (E i).1.getD k 0 < 8 := wd.bf w d i hi (ld_mem hk)
theorem MV.H (V : MV h T E) : gz_La h := V.1
theorem MV.n (V : MV h T E) : h.2.1 85 3 = nI T.2.1 := V.2.2.2.1.2.1
theorem MV.f (V : MV h T E) : h.2.1 85 1 = nI T.1 := V.2.2.2.1.1
theorem MV.pl (V : MV h T E) (k : Nat) (hk : k < T.1) : h.2.1 87 k = nI (T.2.2.1 k) := V.2.2.2.1.2.2.1 k hk
theorem MV.kd (V : MV h T E) (i : Nat) (hi : i < T.2.1) : h.2.1 88 i = nI (T.2.2.2.1 i) := (V.2.2.2.1.2.2.2 i hi).1
theorem MV.mo (V : MV h T E) (i : Nat) (hi : i < T.2.1) : h.2.1 89 i = nI (T.2.2.2.2.1 i) := (V.2.2.2.1.2.2.2 i hi).2.1
theorem MV.rk (V : MV h T E) (i : Nat) (hi : i < T.2.1) : h.2.1 90 i = nI (T.2.2.2.2.2 i) := (V.2.2.2.1.2.2.2 i hi).2.2
theorem MV.gb (V : MV h T E) : h.2.1 86 1 = nI (gbits T.2.1 E) := V.2.2.2.2.1
theorem MV.mn (V : MV h T E) (i : Nat) (hi : i < T.2.1) : h.2.1 86 (2 + i) = nI (E i).1.length := by
  have := (V.2.2.2.2.2 i hi).1
  rw [Nat.zero_add] at this
  exact this
theorem MV.fc (V : MV h T E) (i k : Nat) (hi : i < T.2.1) (hk : k < (E i).1.length) : h.2.1 86 (8 + 8 * i + k) = nI ((E i).1.getD k 0) := by
  have := (V.2.2.2.2.2 i hi).2 k hk
  rw [Nat.zero_add] at this
  exact this
theorem MV.b (V : MV h T E) : T.1 ≤ 8 ∧ T.2.1 ≤ 6 := ⟨V.2.1.1, V.2.1.2.1⟩
theorem MV.bi (V : MV h T E) (i : Nat) (hi : i < T.2.1) : T.2.2.2.1 i ≤ 5 ∧ 1 ≤ T.2.2.2.2.1 i ∧ T.2.2.2.2.1 i ≤ 8 ∧ T.2.2.2.2.2 i ≤ 9 ∧ (E i).1.length ≤ 8 ∧ (E i).1.length ≤ T.2.2.2.2.1 i := by
  have a := V.2.1.2.2.2.2 i hi
  have b := (V.2.2.1 i hi).1
  omega
theorem gb_lt (n : Nat) (hn : n ≤ 6) : gbits n E < 2 ^ 6 := fo_lt (b := 6) fun i hi => by
  by_cases e : (E i).2 = true
  · rw [if_pos e]; exact Nat.pow_lt_pow_right (by decide) (by omega)
  · rw [if_neg e]; decide
theorem gb_bit {n i : Nat} (hi : i < n) : (gbits n E).testBit i = (E i).2 := by
  have : (gbits n E).testBit i = true ↔ (E i).2 = true := by
    unfold gbits
    rw [fo_bit]
    constructor
    · rintro ⟨j, hj, e⟩
      by_cases q : (E j).2 = true
      · rw [if_pos q, bit_p] at e; rw [e]; exact q
      · rw [if_neg q] at e; simp at e
    · intro q
      exact ⟨i, hi, by rw [if_pos q, bit_p]⟩
  cases e1 : (gbits n E).testBit i <;> cases e2 : (E i).2 <;> simp_all
/-! who there is -/
theorem x_goose_in (V : XV h T E) {i : Nat} (hi : i < T.2.1) : fX1_hasGoose 28 (nI i) h = some (nI 1, h) := by
  have H := V.H
  have b := V.b
  unfold fX1_hasGoose fX1_hasGoose_0
  simp (disch := first | assumption | omega | trivial | rfl) only [V.n, ck_1, br_s, b2_s, bi_s, lt_d, bo_0, bo_1, lt_d, uI_1, uI_R, uI_L, uF_1, uF_R, uF_L, uL_1, uL_I, uL_R, uR_1, uR_I, uR_L, inb_uI, inb_uF, inb_uL, inb_uR, len_uI, len_uF, sh_uI, sh_uF, sh_uL, sh_uR, rf_0_0, rf_0_1, rf_0_2, rf_0_3, rf_0_4, rf_0_5, rf_0_6, rf_0_7, rf_0_8, rf_0_9, rf_0_12, rf_0_13, rf_0_14, rf_0_15, rf_0_16, rf_0_17, rf_1_1, rf_1_2, rf_10_1, rf_10_2, rf_18_0, rf_21_0, rf_23_0, rf_25_0, rf_79_0, rf_81_0, rf_83_0, rf_28_0, rf_28_1, rf_31_0, rf_33_0, rf_35_0, rf_37_0, rf_39_0, rf_41_0, rf_43_0, rf_43_1, rf_46_0, rf_48_0, rf_50_0, rf_52_0, rf_54_0, rf_56_0, rf_58_0, rf_58_1, rf_61_0, rf_63_0, rf_65_0, rf_67_0, rf_69_0, rf_71_0, rf_85_0, rf_85_2, rf_85_4, rf_85_5, rf_85_6, rf_85_7, rf_85_8, rf_85_9, rf_85_10, rf_85_15, rf_85_19, rf_85_21, rf_85_22, rf_85_23, rf_85_26, rf_85_27, rf_85_28, rf_2, rf_11, rf_30, rf_45, rf_60, rf_27, sgr_31, sgr_46, sgr_61, slr_79, in_2, in_9, ln_9, in_11, in_16, ln_16, in_19, ln_19, in_22, ln_22, in_24, ln_24, in_26, ln_26, in_27, in_29, ln_29, in_30, in_44, ln_44, in_45, in_59, ln_59, in_60, in_73, ln_73, in_74, ln_74, in_75, ln_75, in_76, ln_76, in_77, ln_77, in_78, ln_78, in_80, ln_80, in_82, ln_82, in_84, ln_84, in_86, ln_86, in_87, ln_87, in_88, ln_88, in_89, ln_89, in_90, ln_90, in_91, ln_91, in_92, ln_92, in_93, ln_93, in_94, ln_94, in_95, ln_95, in_96, ln_96, in_97, ln_97, in_98, ln_98, in_99, ln_99, in_100, ln_100, in_101, ln_101, in_102, ln_102, sh_0, sh_1, sh_10, sh_17, sh_18, sh_20, sh_21, sh_23, sh_25, sh_28, sh_43, sh_58, sh_79, sh_81, sh_83, sh_85, sgk_31, sgi_31, sgk_46, sgi_46, sgk_61, sgi_61, slk_79, sli_79, ini_rw, ini_tx, li_0, li_1, li_2, li_3, li_4, li_5, li_6, li_7, li_8, li_9, li_10, li_11, li_12, li_13, li_14, li_15, li_16, li_31, li_32, li_36, li_40, li_48, li_53, li_55, li_56, li_57, li_58, li_60, li_63, li_64, li_80, li_97, li_98, li_99, li_100, li_103, li_104, li_108, li_115, li_116, li_118, li_200, li_256, li_1000, li_2256, not_true_eq_false, not_false_eq_true, Bool.false_eq_true, if_true, if_false, Nat.or_zero, Nat.zero_or, pk_rem, nI_m31, nI_sl, nI_bt, nI_or, nI_sub', nI_n9, nI_9n, nI_n1, bo_n0, bo_n1, bo_if, nI_if, nI_if0, nI_if1, if_10, if_11, t_bits, t_bc, t_has, nI_clamp, nI_add, pk_mul, pk_sub, nI_eq, nI_leI, nI_ltI, if_pos, if_neg, uI_at, uI_to, uI_ne, uF_at, uF_ne]
theorem x_goose_out (V : XV h T E) {x : Int32} (hx : p_out x T.2.1) : fX1_hasGoose 28 x h = some (nI 0, h) := by
  have H := V.H
  unfold fX1_hasGoose fX1_hasGoose_0
  by_cases e : x < 0
  · rw [if_pos e]; rfl
  · rw [if_neg e, ck_t (sh_28 H), V.n, if_pos (hx.resolve_left e)]; rfl
theorem x_fact_in (V : XV h T E) {i : Nat} (hi : i < T.1) : fX1_hasFact 28 (nI i) h = some (nI 1, h) := by
  have H := V.H
  have b := V.b
  unfold fX1_hasFact fX1_hasFact_0
  simp (disch := first | assumption | omega | trivial | rfl) only [V.f, ck_1, br_s, b2_s, bi_s, lt_d, bo_0, bo_1, lt_d, uI_1, uI_R, uI_L, uF_1, uF_R, uF_L, uL_1, uL_I, uL_R, uR_1, uR_I, uR_L, inb_uI, inb_uF, inb_uL, inb_uR, len_uI, len_uF, sh_uI, sh_uF, sh_uL, sh_uR, rf_0_0, rf_0_1, rf_0_2, rf_0_3, rf_0_4, rf_0_5, rf_0_6, rf_0_7, rf_0_8, rf_0_9, rf_0_12, rf_0_13, rf_0_14, rf_0_15, rf_0_16, rf_0_17, rf_1_1, rf_1_2, rf_10_1, rf_10_2, rf_18_0, rf_21_0, rf_23_0, rf_25_0, rf_79_0, rf_81_0, rf_83_0, rf_28_0, rf_28_1, rf_31_0, rf_33_0, rf_35_0, rf_37_0, rf_39_0, rf_41_0, rf_43_0, rf_43_1, rf_46_0, rf_48_0, rf_50_0, rf_52_0, rf_54_0, rf_56_0, rf_58_0, rf_58_1, rf_61_0, rf_63_0, rf_65_0, rf_67_0, rf_69_0, rf_71_0, rf_85_0, rf_85_2, rf_85_4, rf_85_5, rf_85_6, rf_85_7, rf_85_8, rf_85_9, rf_85_10, rf_85_15, rf_85_19, rf_85_21, rf_85_22, rf_85_23, rf_85_26, rf_85_27, rf_85_28, rf_2, rf_11, rf_30, rf_45, rf_60, rf_27, sgr_31, sgr_46, sgr_61, slr_79, in_2, in_9, ln_9, in_11, in_16, ln_16, in_19, ln_19, in_22, ln_22, in_24, ln_24, in_26, ln_26, in_27, in_29, ln_29, in_30, in_44, ln_44, in_45, in_59, ln_59, in_60, in_73, ln_73, in_74, ln_74, in_75, ln_75, in_76, ln_76, in_77, ln_77, in_78, ln_78, in_80, ln_80, in_82, ln_82, in_84, ln_84, in_86, ln_86, in_87, ln_87, in_88, ln_88, in_89, ln_89, in_90, ln_90, in_91, ln_91, in_92, ln_92, in_93, ln_93, in_94, ln_94, in_95, ln_95, in_96, ln_96, in_97, ln_97, in_98, ln_98, in_99, ln_99, in_100, ln_100, in_101, ln_101, in_102, ln_102, sh_0, sh_1, sh_10, sh_17, sh_18, sh_20, sh_21, sh_23, sh_25, sh_28, sh_43, sh_58, sh_79, sh_81, sh_83, sh_85, sgk_31, sgi_31, sgk_46, sgi_46, sgk_61, sgi_61, slk_79, sli_79, ini_rw, ini_tx, li_0, li_1, li_2, li_3, li_4, li_5, li_6, li_7, li_8, li_9, li_10, li_11, li_12, li_13, li_14, li_15, li_16, li_31, li_32, li_36, li_40, li_48, li_53, li_55, li_56, li_57, li_58, li_60, li_63, li_64, li_80, li_97, li_98, li_99, li_100, li_103, li_104, li_108, li_115, li_116, li_118, li_200, li_256, li_1000, li_2256, not_true_eq_false, not_false_eq_true, Bool.false_eq_true, if_true, if_false, Nat.or_zero, Nat.zero_or, pk_rem, nI_m31, nI_sl, nI_bt, nI_or, nI_sub', nI_n9, nI_9n, nI_n1, bo_n0, bo_n1, bo_if, nI_if, nI_if0, nI_if1, if_10, if_11, t_bits, t_bc, t_has, nI_clamp, nI_add, pk_mul, pk_sub, nI_eq, nI_leI, nI_ltI, if_pos, if_neg, uI_at, uI_to, uI_ne, uF_at, uF_ne]
theorem x_fact_out (V : XV h T E) {x : Int32} (hx : p_out x T.1) : fX1_hasFact 28 x h = some (nI 0, h) := by
  have H := V.H
  unfold fX1_hasFact fX1_hasFact_0
  by_cases e : x < 0
  · rw [if_pos e]; rfl
  · rw [if_neg e, ck_t (sh_28 H), V.f, if_pos (hx.resolve_left e)]; rfl
theorem p2_lt {k : Nat} (hk : k ≤ 8) : 2 ^ k ≤ 256 ∧ 0 < 2 ^ k := ⟨Nat.pow_le_pow_right (n := 2) (by decide) hk, Nat.two_pow_pos k⟩
theorem x_fset_in (V : XV h T E) {s : Nat} (hs : s < 2 ^ T.1) : fX1_hasFactSet 28 (nI s) h = some (nI 1, h) := by
  have H := V.H
  have b := V.b
  have := p2_lt b.1
  unfold fX1_hasFactSet fX1_hasFactSet_0
  simp (disch := first | assumption | omega | trivial | rfl) only [V.f, ck_1, br_s, b2_s, bi_s, lt_d, bo_0, bo_1, lt_d, uI_1, uI_R, uI_L, uF_1, uF_R, uF_L, uL_1, uL_I, uL_R, uR_1, uR_I, uR_L, inb_uI, inb_uF, inb_uL, inb_uR, len_uI, len_uF, sh_uI, sh_uF, sh_uL, sh_uR, rf_0_0, rf_0_1, rf_0_2, rf_0_3, rf_0_4, rf_0_5, rf_0_6, rf_0_7, rf_0_8, rf_0_9, rf_0_12, rf_0_13, rf_0_14, rf_0_15, rf_0_16, rf_0_17, rf_1_1, rf_1_2, rf_10_1, rf_10_2, rf_18_0, rf_21_0, rf_23_0, rf_25_0, rf_79_0, rf_81_0, rf_83_0, rf_28_0, rf_28_1, rf_31_0, rf_33_0, rf_35_0, rf_37_0, rf_39_0, rf_41_0, rf_43_0, rf_43_1, rf_46_0, rf_48_0, rf_50_0, rf_52_0, rf_54_0, rf_56_0, rf_58_0, rf_58_1, rf_61_0, rf_63_0, rf_65_0, rf_67_0, rf_69_0, rf_71_0, rf_85_0, rf_85_2, rf_85_4, rf_85_5, rf_85_6, rf_85_7, rf_85_8, rf_85_9, rf_85_10, rf_85_15, rf_85_19, rf_85_21, rf_85_22, rf_85_23, rf_85_26, rf_85_27, rf_85_28, rf_2, rf_11, rf_30, rf_45, rf_60, rf_27, sgr_31, sgr_46, sgr_61, slr_79, in_2, in_9, ln_9, in_11, in_16, ln_16, in_19, ln_19, in_22, ln_22, in_24, ln_24, in_26, ln_26, in_27, in_29, ln_29, in_30, in_44, ln_44, in_45, in_59, ln_59, in_60, in_73, ln_73, in_74, ln_74, in_75, ln_75, in_76, ln_76, in_77, ln_77, in_78, ln_78, in_80, ln_80, in_82, ln_82, in_84, ln_84, in_86, ln_86, in_87, ln_87, in_88, ln_88, in_89, ln_89, in_90, ln_90, in_91, ln_91, in_92, ln_92, in_93, ln_93, in_94, ln_94, in_95, ln_95, in_96, ln_96, in_97, ln_97, in_98, ln_98, in_99, ln_99, in_100, ln_100, in_101, ln_101, in_102, ln_102, sh_0, sh_1, sh_10, sh_17, sh_18, sh_20, sh_21, sh_23, sh_25, sh_28, sh_43, sh_58, sh_79, sh_81, sh_83, sh_85, sgk_31, sgi_31, sgk_46, sgi_46, sgk_61, sgi_61, slk_79, sli_79, ini_rw, ini_tx, li_0, li_1, li_2, li_3, li_4, li_5, li_6, li_7, li_8, li_9, li_10, li_11, li_12, li_13, li_14, li_15, li_16, li_31, li_32, li_36, li_40, li_48, li_53, li_55, li_56, li_57, li_58, li_60, li_63, li_64, li_80, li_97, li_98, li_99, li_100, li_103, li_104, li_108, li_115, li_116, li_118, li_200, li_256, li_1000, li_2256, not_true_eq_false, not_false_eq_true, Bool.false_eq_true, if_true, if_false, Nat.or_zero, Nat.zero_or, pk_rem, nI_m31, nI_sl, nI_bt, nI_or, nI_sub', nI_n9, nI_9n, nI_n1, bo_n0, bo_n1, bo_if, nI_if, nI_if0, nI_if1, if_10, if_11, t_bits, t_bc, t_has, nI_clamp, nI_add, pk_mul, pk_sub, nI_eq, nI_leI, nI_ltI, if_pos, if_neg, uI_at, uI_to, uI_ne, uF_at, uF_ne]
theorem x_fset_out (V : XV h T E) {x : Int32} (hx : p_out x (2 ^ T.1)) : fX1_hasFactSet 28 x h = some (nI 0, h) := by
  have H := V.H
  have b := V.b
  unfold fX1_hasFactSet fX1_hasFactSet_0
  by_cases e : x < 0
  · rw [if_pos e]; rfl
  · rw [if_neg e, ck_t (sh_28 H), V.f, show (1 : Int32) = nI 1 from rfl, show (31 : Int32) = nI 31 from rfl, nI_shl (by omega), if_pos (hx.resolve_left e)]; rfl
theorem x_gset_in (V : XV h T E) {s : Nat} (hs : s < 2 ^ T.2.1) : fX1_hasGooseSet 28 (nI s) h = some (nI 1, h) := by
  have H := V.H
  have b := V.b
  have := p2_lt (k := T.2.1) (by omega)
  unfold fX1_hasGooseSet fX1_hasGooseSet_0
  simp (disch := first | assumption | omega | trivial | rfl) only [V.n, ck_1, br_s, b2_s, bi_s, lt_d, bo_0, bo_1, lt_d, uI_1, uI_R, uI_L, uF_1, uF_R, uF_L, uL_1, uL_I, uL_R, uR_1, uR_I, uR_L, inb_uI, inb_uF, inb_uL, inb_uR, len_uI, len_uF, sh_uI, sh_uF, sh_uL, sh_uR, rf_0_0, rf_0_1, rf_0_2, rf_0_3, rf_0_4, rf_0_5, rf_0_6, rf_0_7, rf_0_8, rf_0_9, rf_0_12, rf_0_13, rf_0_14, rf_0_15, rf_0_16, rf_0_17, rf_1_1, rf_1_2, rf_10_1, rf_10_2, rf_18_0, rf_21_0, rf_23_0, rf_25_0, rf_79_0, rf_81_0, rf_83_0, rf_28_0, rf_28_1, rf_31_0, rf_33_0, rf_35_0, rf_37_0, rf_39_0, rf_41_0, rf_43_0, rf_43_1, rf_46_0, rf_48_0, rf_50_0, rf_52_0, rf_54_0, rf_56_0, rf_58_0, rf_58_1, rf_61_0, rf_63_0, rf_65_0, rf_67_0, rf_69_0, rf_71_0, rf_85_0, rf_85_2, rf_85_4, rf_85_5, rf_85_6, rf_85_7, rf_85_8, rf_85_9, rf_85_10, rf_85_15, rf_85_19, rf_85_21, rf_85_22, rf_85_23, rf_85_26, rf_85_27, rf_85_28, rf_2, rf_11, rf_30, rf_45, rf_60, rf_27, sgr_31, sgr_46, sgr_61, slr_79, in_2, in_9, ln_9, in_11, in_16, ln_16, in_19, ln_19, in_22, ln_22, in_24, ln_24, in_26, ln_26, in_27, in_29, ln_29, in_30, in_44, ln_44, in_45, in_59, ln_59, in_60, in_73, ln_73, in_74, ln_74, in_75, ln_75, in_76, ln_76, in_77, ln_77, in_78, ln_78, in_80, ln_80, in_82, ln_82, in_84, ln_84, in_86, ln_86, in_87, ln_87, in_88, ln_88, in_89, ln_89, in_90, ln_90, in_91, ln_91, in_92, ln_92, in_93, ln_93, in_94, ln_94, in_95, ln_95, in_96, ln_96, in_97, ln_97, in_98, ln_98, in_99, ln_99, in_100, ln_100, in_101, ln_101, in_102, ln_102, sh_0, sh_1, sh_10, sh_17, sh_18, sh_20, sh_21, sh_23, sh_25, sh_28, sh_43, sh_58, sh_79, sh_81, sh_83, sh_85, sgk_31, sgi_31, sgk_46, sgi_46, sgk_61, sgi_61, slk_79, sli_79, ini_rw, ini_tx, li_0, li_1, li_2, li_3, li_4, li_5, li_6, li_7, li_8, li_9, li_10, li_11, li_12, li_13, li_14, li_15, li_16, li_31, li_32, li_36, li_40, li_48, li_53, li_55, li_56, li_57, li_58, li_60, li_63, li_64, li_80, li_97, li_98, li_99, li_100, li_103, li_104, li_108, li_115, li_116, li_118, li_200, li_256, li_1000, li_2256, not_true_eq_false, not_false_eq_true, Bool.false_eq_true, if_true, if_false, Nat.or_zero, Nat.zero_or, pk_rem, nI_m31, nI_sl, nI_bt, nI_or, nI_sub', nI_n9, nI_9n, nI_n1, bo_n0, bo_n1, bo_if, nI_if, nI_if0, nI_if1, if_10, if_11, t_bits, t_bc, t_has, nI_clamp, nI_add, pk_mul, pk_sub, nI_eq, nI_leI, nI_ltI, if_pos, if_neg, uI_at, uI_to, uI_ne, uF_at, uF_ne]
theorem x_gset_out (V : XV h T E) {x : Int32} (hx : p_out x (2 ^ T.2.1)) : fX1_hasGooseSet 28 x h = some (nI 0, h) := by
  have H := V.H
  have b := V.b
  unfold fX1_hasGooseSet fX1_hasGooseSet_0
  by_cases e : x < 0
  · rw [if_pos e]; rfl
  · rw [if_neg e, ck_t (sh_28 H), V.n, show (1 : Int32) = nI 1 from rfl, show (31 : Int32) = nI 31 from rfl, nI_shl (by omega), if_pos (hx.resolve_left e)]; rfl
theorem m_in_in {j n : Nat} (hn : n < 2 ^ 31) (hj : j < n) : gz_b2 (fX9_in (nI j).toInt64 (0 : Int64) (nI n - (1 : Int32)).toInt64 h) (fun y h1 => gz_ck (gz_bo y) (some (y, h1))) = some (nI 1, h) := by
  rw [p_in0_in hn hj, b2_s, ck_t bo_1]; rfl
theorem m_in_out {x : Int32} {n : Nat} (hn : n < 2 ^ 31) (hx : p_out x n) : gz_b2 (fX9_in x.toInt64 (0 : Int64) (nI n - (1 : Int32)).toInt64 h) (fun y h1 => gz_ck (gz_bo y) (some (y, h1))) = some (nI 0, h) := by
  rw [p_in0_out hn hx, b2_s, ck_t bo_0]; rfl
theorem m_goose_in (V : MV h T E) {i : Nat} (hi : i < T.2.1) : fX9_isGoose 85 (nI i) h = some (nI 1, h) := by
  have b := V.b
  unfold fX9_isGoose fX9_isGoose_0
  rw [ck_t (sh_85 V.H), V.n, m_in_in (by omega) hi]
theorem m_goose_out (V : MV h T E) {x : Int32} (hx : p_out x T.2.1) : fX9_isGoose 85 x h = some (nI 0, h) := by
  have b := V.b
  unfold fX9_isGoose fX9_isGoose_0
  rw [ck_t (sh_85 V.H), V.n, m_in_out (by omega) hx]
theorem m_fact_in (V : MV h T E) {i : Nat} (hi : i < T.1) : fX9_isFact 85 (nI i) h = some (nI 1, h) := by
  have b := V.b
  unfold fX9_isFact fX9_isFact_0
  rw [ck_t (sh_85 V.H), V.f, m_in_in (by omega) hi]
theorem m_fact_out (V : MV h T E) {x : Int32} (hx : p_out x T.1) : fX9_isFact 85 x h = some (nI 0, h) := by
  have b := V.b
  unfold fX9_isFact fX9_isFact_0
  rw [ck_t (sh_85 V.H), V.f, m_in_out (by omega) hx]
theorem m_set_in (V : MV h T E) {s : Nat} (hs : s < 2 ^ T.1) : fX9_isSet 85 (nI s) h = some (nI 1, h) := by
  have b := V.b
  have := p2_lt b.1
  unfold fX9_isSet fX9_isSet_0
  rw [ck_t (sh_85 V.H), V.f, show (1 : Int32) <<< (nI T.1 &&& 31) = nI (2 ^ T.1) from nI_shl (by omega), m_in_in (by omega) hs]
theorem m_set_out (V : MV h T E) {x : Int32} (hx : p_out x (2 ^ T.1)) : fX9_isSet 85 x h = some (nI 0, h) := by
  have b := V.b
  have := p2_lt b.1
  unfold fX9_isSet fX9_isSet_0
  rw [ck_t (sh_85 V.H), V.f, show (1 : Int32) <<< (nI T.1 &&& 31) = nI (2 ^ T.1) from nI_shl (by omega), m_in_out (by omega) hx]
theorem m_place_in {p : Nat} (hp : p < 6) : fX9_isPlace (nI p) h = some (nI 1, h) := by
  unfold fX9_isPlace fX9_isPlace_0
  exact m_in_in (n := 6) (by decide) hp
theorem m_place_out {x : Int32} (hx : p_out x 6) : fX9_isPlace x h = some (nI 0, h) := by
  unfold fX9_isPlace fX9_isPlace_0
  exact m_in_out (n := 6) (by decide) hx
theorem m_isGone (V : MV h T E) {i : Nat} (hi : i < T.2.1) : fX9_isGone 85 (nI i) h = some (nI (if (E i).2 = true then 1 else 0), h) := by
  have H := V.H
  have b := V.b
  have := gb_lt (E := E) T.2.1 b.2
  unfold fX9_isGone fX9_isGone_0
  simp (disch := first | assumption | omega | trivial | rfl) only [V.gb, ck_1, br_s, b2_s, bi_s, lt_d, bo_0, bo_1, lt_d, uI_1, uI_R, uI_L, uF_1, uF_R, uF_L, uL_1, uL_I, uL_R, uR_1, uR_I, uR_L, inb_uI, inb_uF, inb_uL, inb_uR, len_uI, len_uF, sh_uI, sh_uF, sh_uL, sh_uR, rf_0_0, rf_0_1, rf_0_2, rf_0_3, rf_0_4, rf_0_5, rf_0_6, rf_0_7, rf_0_8, rf_0_9, rf_0_12, rf_0_13, rf_0_14, rf_0_15, rf_0_16, rf_0_17, rf_1_1, rf_1_2, rf_10_1, rf_10_2, rf_18_0, rf_21_0, rf_23_0, rf_25_0, rf_79_0, rf_81_0, rf_83_0, rf_28_0, rf_28_1, rf_31_0, rf_33_0, rf_35_0, rf_37_0, rf_39_0, rf_41_0, rf_43_0, rf_43_1, rf_46_0, rf_48_0, rf_50_0, rf_52_0, rf_54_0, rf_56_0, rf_58_0, rf_58_1, rf_61_0, rf_63_0, rf_65_0, rf_67_0, rf_69_0, rf_71_0, rf_85_0, rf_85_2, rf_85_4, rf_85_5, rf_85_6, rf_85_7, rf_85_8, rf_85_9, rf_85_10, rf_85_15, rf_85_19, rf_85_21, rf_85_22, rf_85_23, rf_85_26, rf_85_27, rf_85_28, rf_2, rf_11, rf_30, rf_45, rf_60, rf_27, sgr_31, sgr_46, sgr_61, slr_79, in_2, in_9, ln_9, in_11, in_16, ln_16, in_19, ln_19, in_22, ln_22, in_24, ln_24, in_26, ln_26, in_27, in_29, ln_29, in_30, in_44, ln_44, in_45, in_59, ln_59, in_60, in_73, ln_73, in_74, ln_74, in_75, ln_75, in_76, ln_76, in_77, ln_77, in_78, ln_78, in_80, ln_80, in_82, ln_82, in_84, ln_84, in_86, ln_86, in_87, ln_87, in_88, ln_88, in_89, ln_89, in_90, ln_90, in_91, ln_91, in_92, ln_92, in_93, ln_93, in_94, ln_94, in_95, ln_95, in_96, ln_96, in_97, ln_97, in_98, ln_98, in_99, ln_99, in_100, ln_100, in_101, ln_101, in_102, ln_102, sh_0, sh_1, sh_10, sh_17, sh_18, sh_20, sh_21, sh_23, sh_25, sh_28, sh_43, sh_58, sh_79, sh_81, sh_83, sh_85, sgk_31, sgi_31, sgk_46, sgi_46, sgk_61, sgi_61, slk_79, sli_79, ini_rw, ini_tx, li_0, li_1, li_2, li_3, li_4, li_5, li_6, li_7, li_8, li_9, li_10, li_11, li_12, li_13, li_14, li_15, li_16, li_31, li_32, li_36, li_40, li_48, li_53, li_55, li_56, li_57, li_58, li_60, li_63, li_64, li_80, li_97, li_98, li_99, li_100, li_103, li_104, li_108, li_115, li_116, li_118, li_200, li_256, li_1000, li_2256, not_true_eq_false, not_false_eq_true, Bool.false_eq_true, if_true, if_false, Nat.or_zero, Nat.zero_or, pk_rem, nI_m31, nI_sl, nI_bt, nI_or, nI_sub', nI_n9, nI_9n, nI_n1, bo_n0, bo_n1, bo_if, nI_if, nI_if0, nI_if1, if_10, if_11, t_bits, t_bc, t_has, nI_clamp, nI_add, pk_mul, pk_sub, nI_eq, nI_leI, nI_ltI, if_pos, if_neg, uI_at, uI_to, uI_ne, uF_at, uF_ne, gb_bit hi]
theorem m_factOf (V : MV h T E) {i k : Nat} (hi : i < T.2.1) (hk : k < (E i).1.length) : fX9_factOf 85 (nI i) (nI k) h = some (nI ((E i).1.getD k 0), h) := by
  have H := V.H
  have b := V.b
  have bi := V.bi i hi
  unfold fX9_factOf fX9_factOf_0
  simp (disch := first | assumption | omega | trivial | rfl) only [V.fc, ck_1, br_s, b2_s, bi_s, lt_d, bo_0, bo_1, lt_d, uI_1, uI_R, uI_L, uF_1, uF_R, uF_L, uL_1, uL_I, uL_R, uR_1, uR_I, uR_L, inb_uI, inb_uF, inb_uL, inb_uR, len_uI, len_uF, sh_uI, sh_uF, sh_uL, sh_uR, rf_0_0, rf_0_1, rf_0_2, rf_0_3, rf_0_4, rf_0_5, rf_0_6, rf_0_7, rf_0_8, rf_0_9, rf_0_12, rf_0_13, rf_0_14, rf_0_15, rf_0_16, rf_0_17, rf_1_1, rf_1_2, rf_10_1, rf_10_2, rf_18_0, rf_21_0, rf_23_0, rf_25_0, rf_79_0, rf_81_0, rf_83_0, rf_28_0, rf_28_1, rf_31_0, rf_33_0, rf_35_0, rf_37_0, rf_39_0, rf_41_0, rf_43_0, rf_43_1, rf_46_0, rf_48_0, rf_50_0, rf_52_0, rf_54_0, rf_56_0, rf_58_0, rf_58_1, rf_61_0, rf_63_0, rf_65_0, rf_67_0, rf_69_0, rf_71_0, rf_85_0, rf_85_2, rf_85_4, rf_85_5, rf_85_6, rf_85_7, rf_85_8, rf_85_9, rf_85_10, rf_85_15, rf_85_19, rf_85_21, rf_85_22, rf_85_23, rf_85_26, rf_85_27, rf_85_28, rf_2, rf_11, rf_30, rf_45, rf_60, rf_27, sgr_31, sgr_46, sgr_61, slr_79, in_2, in_9, ln_9, in_11, in_16, ln_16, in_19, ln_19, in_22, ln_22, in_24, ln_24, in_26, ln_26, in_27, in_29, ln_29, in_30, in_44, ln_44, in_45, in_59, ln_59, in_60, in_73, ln_73, in_74, ln_74, in_75, ln_75, in_76, ln_76, in_77, ln_77, in_78, ln_78, in_80, ln_80, in_82, ln_82, in_84, ln_84, in_86, ln_86, in_87, ln_87, in_88, ln_88, in_89, ln_89, in_90, ln_90, in_91, ln_91, in_92, ln_92, in_93, ln_93, in_94, ln_94, in_95, ln_95, in_96, ln_96, in_97, ln_97, in_98, ln_98, in_99, ln_99, in_100, ln_100, in_101, ln_101, in_102, ln_102, sh_0, sh_1, sh_10, sh_17, sh_18, sh_20, sh_21, sh_23, sh_25, sh_28, sh_43, sh_58, sh_79, sh_81, sh_83, sh_85, sgk_31, sgi_31, sgk_46, sgi_46, sgk_61, sgi_61, slk_79, sli_79, ini_rw, ini_tx, li_0, li_1, li_2, li_3, li_4, li_5, li_6, li_7, li_8, li_9, li_10, li_11, li_12, li_13, li_14, li_15, li_16, li_31, li_32, li_36, li_40, li_48, li_53, li_55, li_56, li_57, li_58, li_60, li_63, li_64, li_80, li_97, li_98, li_99, li_100, li_103, li_104, li_108, li_115, li_116, li_118, li_200, li_256, li_1000, li_2256, not_true_eq_false, not_false_eq_true, Bool.false_eq_true, if_true, if_false, Nat.or_zero, Nat.zero_or, pk_rem, nI_m31, nI_sl, nI_bt, nI_or, nI_sub', nI_n9, nI_9n, nI_n1, bo_n0, bo_n1, bo_if, nI_if, nI_if0, nI_if1, if_10, if_11, t_bits, t_bc, t_has, nI_clamp, nI_add, pk_mul, pk_sub, nI_eq, nI_leI, nI_ltI, if_pos, if_neg, uI_at, uI_to, uI_ne, uF_at, uF_ne]
end
