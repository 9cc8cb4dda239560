section
/-! PURE: deeds, as such -/
theorem tk_len {mo f : Nat} {l : List Nat} (h1 : 1 ≤ mo) (h : l.length ≤ mo) : (tk mo l f).length ≤ mo := by
  unfold tk
  by_cases e : f ∈ l
  · rw [if_pos e, List.length_append, List.length_erase_of_mem e]
    have := List.length_pos_of_mem e
    simp
    omega
  · rw [if_neg e]
    by_cases c : mo ≤ l.length
    · rw [if_pos c]; simp; omega
    · rw [if_neg c]; simp; omega
theorem tk_mem {mo f x : Nat} {l : List Nat} (h : x ∈ tk mo l f) : x ∈ l ∨ x = f := by
  unfold tk at h
  by_cases e : f ∈ l
  · rw [if_pos e] at h
    rcases List.mem_append.mp h with q | q
    · exact Or.inl (List.mem_of_mem_erase q)
    · exact Or.inr (List.mem_singleton.mp q)
  · rw [if_neg e] at h
    by_cases c : mo ≤ l.length
    · rw [if_pos c] at h
      rcases List.mem_append.mp h with q | q
      · exact Or.inl (List.mem_of_mem_tail q)
      · exact Or.inr (List.mem_singleton.mp q)
    · rw [if_neg c] at h
      rcases List.mem_append.mp h with q | q
      · exact Or.inl q
      · exact Or.inr (List.mem_singleton.mp q)
theorem nodup_add {l : List Nat} {f : Nat} (h : l.Nodup) (hf : f ∉ l) : (l ++ [f]).Nodup := by
  rw [List.nodup_append]
  exact ⟨h, by simp, fun a ha b hb => by rw [List.mem_singleton.mp hb]; exact fun z => hf (z ▸ ha)⟩
theorem tk_nodup {mo f : Nat} {l : List Nat} (h : l.Nodup) : (tk mo l f).Nodup := by
  unfold tk
  by_cases e : f ∈ l
  · rw [if_pos e]
    exact nodup_add (h.erase f) (fun z => by have := (List.Nodup.mem_erase_iff h).mp z; exact this.1 rfl)
  · rw [if_neg e]
    by_cases c : mo ≤ l.length
    · rw [if_pos c]
      exact nodup_add (h.sublist (List.tail_sublist l)) (fun z => e (List.mem_of_mem_tail z))
    · rw [if_neg c]
      exact nodup_add h e
/-- a goose that may be -/
def gd (T : gz_T) (i : Nat) (l : List Nat) : Prop := l.length ≤ T.2.2.2.2.1 i ∧ l.Nodup ∧ ∀ f ∈ l, f < T.1
theorem gd_tk {T : gz_T} {i f : Nat} {l : List Nat} (w : wsT T) (hi : i < T.2.1) (hf : f < T.1) (g : gd T i l) : gd T i (tk (T.2.2.2.2.1 i) l f) :=
  ⟨tk_len (w.bi i hi).2.1 g.1, tk_nodup g.2.1, fun x hx => (tk_mem hx).elim (g.2.2 x) (fun e => e ▸ hf)⟩
theorem gd_fold {T : gz_T} {i : Nat} (w : wsT T) (hi : i < T.2.1) : ∀ (k l : List Nat), (∀ f ∈ k, f < T.1) → gd T i l → gd T i (k.foldl (tk (T.2.2.2.2.1 i)) l) := by
  intro k
  induction k with
  | nil => intro l _ g; exact g
  | cons f k ih =>
    intro l hk g
    exact ih _ (fun x hx => hk x (List.mem_cons_of_mem _ hx)) (gd_tk w hi (hk f List.mem_cons_self) g)
theorem wd.gd {T : gz_T} {E : gz_D} (d : wd T E) {i : Nat} (hi : i < T.2.1) : gd T i (E i).1 := ⟨(d i hi).1, (d i hi).2.1, (d i hi).2.2.1⟩
theorem up_at {E : gz_D} {i : Nat} {x : List Nat × Bool} : va_up E i x i = x := by simp [va_up]
theorem up_ne {E : gz_D} {i j : Nat} {x : List Nat × Bool} (h : ¬ j = i) : va_up E i x j = E j := by simp [va_up, h]
theorem wd_up {T : gz_T} {E : gz_D} (d : wd T E) {i : Nat} {x : List Nat × Bool} (g : i < T.2.1 → gd T i x.1) (b : x.2 = true → x.1 = []) : wd T (va_up E i x) := by
  intro j hj
  by_cases e : j = i
  · subst e
    rw [up_at]
    exact ⟨(g hj).1, (g hj).2.1, (g hj).2.2, b⟩
  · rw [up_ne e]
    exact d j hj
theorem gd_nil {T : gz_T} {i : Nat} : gd T i [] := ⟨Nat.zero_le _, List.nodup_nil, fun f hf => absurd hf (by simp)⟩
theorem lv_e {E : gz_D} {i : Nat} {l : List Nat} (h : (E i).2 = false) : (E i).2 = true → l = [] := fun z => by rw [h] at z; exact absurd z (by decide)
theorem mixT {T : gz_T} {E : gz_D} {i j : Nat} : ((pf_mix T E i j).1 = i ∧ (pf_mix T E i j).2 = j) ∨ ((pf_mix T E i j).1 = j ∧ (pf_mix T E i j).2 = i) := by
  unfold pf_mix
  by_cases c : T.2.2.2.2.2 j < T.2.2.2.2.2 i ∨ (T.2.2.2.2.2 i = T.2.2.2.2.2 j ∧ i < j)
  · rw [if_pos c]; exact Or.inl ⟨rfl, rfl⟩
  · rw [if_neg c]; exact Or.inr ⟨rfl, rfl⟩
theorem wd_pf {T : gz_T} {E : gz_D} {d : gz_De} (w : wsT T) (D : wd T E) (v : vd T d) (l : lv E d) : wd T (pf T E d) := by
  obtain ⟨a, i, j⟩ := d
  obtain ⟨v1, v2, v3, v4, v5, v6⟩ := v
  obtain ⟨l1, l2, l3⟩ := l
  dsimp only at v1 v2 v3 v4 v5 v6 l1 l2 l3
  unfold pf
  dsimp only
  by_cases c0 : a = 0
  · rw [if_pos c0]
    exact wd_up D (fun _ => gd_tk w v2 (v3 c0) (D.gd v2)) (lv_e l1)
  · rw [if_neg c0]
    by_cases c1 : a = 1
    · rw [if_pos c1]
      have g := D.gd v2
      exact wd_up D (fun _ => ⟨by have := g.1; simp; omega, g.2.1.sublist (List.dropLast_sublist _), fun f hf => g.2.2 f (List.dropLast_subset _ hf)⟩) (lv_e l1)
    · rw [if_neg c1]
      by_cases c2 : a = 2
      · rw [if_pos c2]
        have vj := v5 c2
        have lj := l2 c2
        cases e : (E (pf_mix T E i j).1).1.getLast? with
        | none => exact D
        | some f =>
          have hf : f ∈ (E (pf_mix T E i j).1).1 := List.mem_of_getLast? e
          rcases mixT (T := T) (E := E) (i := i) (j := j) with ⟨m1, m2⟩ | ⟨m1, m2⟩
          · rw [m1] at hf
            rw [m2]
            exact wd_up D (fun _ => gd_tk w vj.1 ((D.gd v2).2.2 f hf) (D.gd vj.1)) (lv_e lj)
          · rw [m1] at hf
            rw [m2]
            exact wd_up D (fun _ => gd_tk w v2 ((D.gd vj.1).2.2 f hf) (D.gd v2)) (lv_e l1)
      · rw [if_neg c2]
        by_cases c3 : j = 15
        · rw [if_pos c3]
          exact wd_up D (fun _ => gd_nil) (fun _ => rfl)
        · rw [if_neg c3]
          have vj := (v6 (by omega)).resolve_left c3
          exact wd_up (wd_up D (x := ((E i).1.foldl (tk (T.2.2.2.2.1 j)) (E j).1, (E j).2)) (fun _ => gd_fold w vj.1 _ _ (D.gd v2).2.2 (D.gd vj.1)) (lv_e (l3 (by omega) c3))) (x := ([], true)) (fun _ => gd_nil) (fun _ => rfl)
theorem rn_add {T : gz_T} {D : gz_D} {ds : List gz_De} {d : gz_De} : rn T D (ds ++ [d]) = pf T (rn T D ds) d := by unfold rn; rw [List.foldl_append]; rfl
theorem gl_add {T : gz_T} {D : gz_D} {ds : List gz_De} {d : gz_De} (w : wsT T) (g : gl T D ds) (hl : ds.length < 40) (v : vd T d) (l : lv (rn T D ds) d) : gl T D (ds ++ [d]) := by
  obtain ⟨g1, g2, g3, g4⟩ := g
  have e0 := g3 ds.length (Nat.le_refl _)
  rw [List.take_length] at e0
  refine ⟨by simp; omega, fun x hx => ?_, fun n hn => ?_, fun n hn => ?_⟩
  · rcases List.mem_append.mp hx with q | q
    · exact g2 x q
    · rw [List.mem_singleton.mp q]; exact v
  · rcases Nat.lt_or_ge ds.length n with q | q
    · rw [List.take_of_length_le (by simp; omega), rn_add]
      exact wd_pf w e0 v l
    · rw [List.take_append_of_le_length q]
      exact g3 n q
  · have hn2 : n < ds.length + 1 := by simpa using hn
    rw [List.take_append_of_le_length (by omega)]
    rcases Nat.lt_or_ge n ds.length with q | q
    · rw [List.getD_eq_getElem?_getD, List.getElem?_append_left q, ← List.getD_eq_getElem?_getD]
      exact g4 n q
    · have : n = ds.length := by omega
      subst this
      rw [List.take_length, List.getD_eq_getElem?_getD, List.getElem?_append_right (Nat.le_refl _)]
      simp
      exact l
theorem gl_take {T : gz_T} {D : gz_D} {ds : List gz_De} (g : gl T D ds) (n : Nat) : gl T D (ds.take n) := by
  obtain ⟨g1, g2, g3, g4⟩ := g
  refine ⟨by simp; omega, fun x hx => g2 x (List.mem_of_mem_take hx), fun m hm => ?_, fun m hm => ?_⟩
  · have : m ≤ n ∧ m ≤ ds.length := by simp at hm; omega
    rw [List.take_take, Nat.min_eq_left this.1]
    exact g3 m this.2
  · have : m < n ∧ m < ds.length := by simp at hm; omega
    rw [List.take_take, Nat.min_eq_left (by omega), List.getD_eq_getElem?_getD, List.getElem?_take_of_lt this.1, ← List.getD_eq_getElem?_getD]
    exact g4 m this.2
end
section
/-! PURE: deeds of the class -/
/-- only geese of now change -/
def fl (h h' : gz_H) : Prop := h'.1 = h.1 ∧ h'.2.2 = h.2.2 ∧ ∀ a k, a < 31 ∨ 42 < a → h'.2.1 a k = h.2.1 a k
theorem fl.rf {h : gz_H} : fl h h := ⟨rfl, rfl, fun _ _ _ => rfl⟩
theorem fl.tr {h h1 h2 : gz_H} (a : fl h h1) (b : fl h1 h2) : fl h h2 := ⟨b.1.trans a.1, b.2.1.trans a.2.1, fun x k e => (b.2.2 x k e).trans (a.2.2 x k e)⟩
theorem fr2.fl {h h' : gz_H} {i : Nat} (hi : i < 6) (f : fr2 h h' (31 + 2 * i)) : fl h h' := ⟨f.1, f.2.1, fun a k e => f.2.2.1 a k (by omega) (by omega)⟩
section
variable {h : gz_H} {T : gz_T} {E : gz_D}
theorem xv_up (V : XV h T E) {i : Nat} (hi : i < T.2.1) {h' : gz_H} {l : List Nat} {b : Bool} (e1 : h'.1 = h.1) (e2 : h'.2.2 = h.2.2) (o1 : ∀ a k, a ≠ 31 + 2 * i → a ≠ 31 + 2 * i + 1 → h'.2.1 a k = h.2.1 a k) (o2 : ∀ k, k ≠ 1 → k ≠ 5 → h'.2.1 (31 + 2 * i) k = h.2.1 (31 + 2 * i) k) (G : gv h' (31 + 2 * i) l) (g5 : h'.2.1 (31 + 2 * i) 5 = if b = true then 1 else 0) (w : wd T (va_up E i (l, b))) : XV h' T (va_up E i (l, b)) := by
  obtain ⟨H, ws, d, x1, x2, x3, x4⟩ := V
  have hb := ws.2.1
  refine ⟨H.of e1 (congrArg Prod.snd e2), ws, w, by rw [o1 28 2 (by omega) (by omega)]; exact x1, by rw [o1 28 3 (by omega) (by omega)]; exact x2, fun k hk => by rw [o1 (28 + 1) k (by omega) (by omega)]; exact x3 k hk, fun j hj => ?_⟩
  obtain ⟨y1, y2, y3, y4, y5⟩ := x4 j hj
  by_cases e : j = i
  · subst e
    rw [up_at]
    refine ⟨G, ?_, ?_, ?_, g5⟩
    · show h'.2.1 (31 + 2 * j) 2 = _
      rw [o2 2 (by omega) (by omega)]; exact y2
    · show h'.2.1 (31 + 2 * j) 3 = _
      rw [o2 3 (by omega) (by omega)]; exact y3
    · show h'.2.1 (31 + 2 * j) 4 = _
      rw [o2 4 (by omega) (by omega)]; exact y4
  · rw [up_ne e]
    have o : ∀ k, h'.2.1 (28 + 3 + 2 * j) k = h.2.1 (28 + 3 + 2 * j) k := fun k => o1 _ k (by omega) (by omega)
    exact ⟨y1.cg e1 (congrArg Prod.snd e2) (fun k => ⟨o k, o1 _ k (by omega) (by omega)⟩), by rw [o]; exact y2, by rw [o]; exact y3, by rw [o]; exact y4, by rw [o]; exact y5⟩
theorem xv_upf (V : XV h T E) {i : Nat} (hi : i < T.2.1) {h' : gz_H} {l : List Nat} (f : fr2 h h' (31 + 2 * i)) (G : gv h' (31 + 2 * i) l) (w : wd T (va_up E i (l, (E i).2))) : XV h' T (va_up E i (l, (E i).2)) :=
  xv_up V hi f.1 f.2.1 f.2.2.1 (fun k h1 _ => f.2.2.2 k h1) G (by rw [f.2.2.2 5 (by decide)]; exact (V.2.2.2.2.2.2 i hi).2.2.2.2) w
theorem x_takeE (V : XV h T E) {i f : Nat} (hi : i < T.2.1) (hf : f < T.1) (al : (E i).2 = false) : ∃ h', fX2_take (31 + 2 * i) (nI f) h = some (tkA (T.2.2.2.2.1 i) (E i).1 f, h') ∧ XV h' T (va_up E i (tk (T.2.2.2.2.1 i) (E i).1 f, (E i).2)) ∧ fl h h' := by
  have b := V.b
  have bi := V.bi i hi
  obtain ⟨h', e, G, fr⟩ := x_take (V.gv i hi) (fun x hx => (wd.bf V.2.1 V.2.2.1 i hi hx).2) (V.mo i hi) bi.2.1 bi.2.2.1 bi.2.2.2.2.2 (f := f) (by omega)
  exact ⟨h', e, xv_upf V hi fr G (wd_up V.2.2.1 (fun _ => gd_tk V.2.1 hi hf (V.2.2.1.gd hi)) (lv_e al)), fr.fl (by omega)⟩
theorem x_loseE (V : XV h T E) {i : Nat} (hi : i < T.2.1) (al : (E i).2 = false) : ∃ h', fX2_loseNewest (31 + 2 * i) h = some (nw (E i).1, h') ∧ XV h' T (va_up E i ((E i).1.dropLast, (E i).2)) ∧ fl h h' := by
  have b := V.b
  obtain ⟨h', e, G, fr⟩ := x_lose (V.gv i hi)
  have g := V.2.2.1.gd hi
  exact ⟨h', e, xv_upf V hi fr G (wd_up V.2.2.1 (fun _ => ⟨by have := g.1; simp; omega, g.2.1.sublist (List.dropLast_sublist _), fun f hf => g.2.2 f (List.dropLast_subset _ hf)⟩) (lv_e al)), fr.fl (by omega)⟩
theorem x_leaveE (V : XV h T E) {i : Nat} (hi : i < T.2.1) : ∃ h', fX2_leave (31 + 2 * i) h = some ((), h') ∧ XV h' T (va_up E i ([], true)) ∧ fl h h' := by
  have H := V.H
  have b := V.b
  have G := V.gv i hi
  refine ⟨uI (uI h (31 + 2 * i) 1 (nI 0)) (31 + 2 * i) 5 (nI 1), ?_, xv_up V hi (l := []) (b := true) rfl rfl (fun a k h1 h2 => by rw [uI_ne (by omega), uI_ne (by omega)]) (fun k h1 h2 => by rw [uI_ne (by omega), uI_ne (by omega)]) ⟨G.1, G.2.1, G.2.2.1, by simp, ?_, fun k hk => absurd hk (by simp)⟩ (by rw [uI_at]; rfl) (wd_up V.2.2.1 (fun _ => gd_nil) (fun _ => rfl)), rfl, rfl, fun a k e => by rw [uI_ne (by omega), uI_ne (by omega)]⟩
  · unfold fX2_leave fX2_leave_0
    simp (disch := first | assumption | omega | trivial | rfl) only [ck_1, br_s, b2_s, bi_s, lt_d, bo_0, bo_1, lt_d, uI_1, uI_R, uI_L, uF_1, uF_R, uF_L, uL_1, uL_I, uL_R, uR_1, uR_I, uR_L, inb_uI, inb_uF, inb_uL, inb_uR, len_uI, len_uF, sh_uI, sh_uF, sh_uL, sh_uR, rf_0_0, rf_0_1, rf_0_2, rf_0_3, rf_0_4, rf_0_5, rf_0_6, rf_0_7, rf_0_8, rf_0_9, rf_0_12, rf_0_13, rf_0_14, rf_0_15, rf_0_16, rf_0_17, rf_1_1, rf_1_2, rf_10_1, rf_10_2, rf_18_0, rf_21_0, rf_23_0, rf_25_0, rf_79_0, rf_81_0, rf_83_0, rf_28_0, rf_28_1, rf_31_0, rf_33_0, rf_35_0, rf_37_0, rf_39_0, rf_41_0, rf_43_0, rf_43_1, rf_46_0, rf_48_0, rf_50_0, rf_52_0, rf_54_0, rf_56_0, rf_58_0, rf_58_1, rf_61_0, rf_63_0, rf_65_0, rf_67_0, rf_69_0, rf_71_0, rf_85_0, rf_85_2, rf_85_4, rf_85_5, rf_85_6, rf_85_7, rf_85_8, rf_85_9, rf_85_10, rf_85_15, rf_85_19, rf_85_21, rf_85_22, rf_85_23, rf_85_26, rf_85_27, rf_85_28, rf_2, rf_11, rf_30, rf_45, rf_60, rf_27, sgr_31, sgr_46, sgr_61, slr_79, in_2, in_9, ln_9, in_11, in_16, ln_16, in_19, ln_19, in_22, ln_22, in_24, ln_24, in_26, ln_26, in_27, in_29, ln_29, in_30, in_44, ln_44, in_45, in_59, ln_59, in_60, in_73, ln_73, in_74, ln_74, in_75, ln_75, in_76, ln_76, in_77, ln_77, in_78, ln_78, in_80, ln_80, in_82, ln_82, in_84, ln_84, in_86, ln_86, in_87, ln_87, in_88, ln_88, in_89, ln_89, in_90, ln_90, in_91, ln_91, in_92, ln_92, in_93, ln_93, in_94, ln_94, in_95, ln_95, in_96, ln_96, in_97, ln_97, in_98, ln_98, in_99, ln_99, in_100, ln_100, in_101, ln_101, in_102, ln_102, sh_0, sh_1, sh_10, sh_17, sh_18, sh_20, sh_21, sh_23, sh_25, sh_28, sh_43, sh_58, sh_79, sh_81, sh_83, sh_85, sgk_31, sgi_31, sgk_46, sgi_46, sgk_61, sgi_61, slk_79, sli_79, ini_rw, ini_tx, li_0, li_1, li_2, li_3, li_4, li_5, li_6, li_7, li_8, li_9, li_10, li_11, li_12, li_13, li_14, li_15, li_16, li_31, li_32, li_36, li_40, li_48, li_53, li_55, li_56, li_57, li_58, li_60, li_63, li_64, li_80, li_97, li_98, li_99, li_100, li_103, li_104, li_108, li_115, li_116, li_118, li_200, li_256, li_1000, li_2256, not_true_eq_false, not_false_eq_true, Bool.false_eq_true, if_true, if_false, Nat.or_zero, Nat.zero_or, pk_rem, nI_m31, nI_sl, nI_bt, nI_or, nI_sub', nI_n9, nI_9n, nI_n1, bo_n0, bo_n1, bo_if, nI_if, nI_if0, nI_if1, if_10, if_11, t_bits, t_bc, t_has, nI_clamp, nI_add, pk_mul, pk_sub, nI_eq, nI_leI, nI_ltI, if_pos, if_neg, uI_at, uI_to, uI_ne, uF_at, uF_ne]
  · rw [uI_ne (by omega), uI_at]; rfl
/-! mixing -/
theorem rk_c : ∀ a b : Fin 10, ((0 : Int32) < nI a.1 - nI b.1 ↔ b.1 < a.1) ∧ (nI a.1 - nI b.1 = 0 ↔ a.1 = b.1) := by decide
def mixD (T : gz_T) (E : gz_D) (g t : Nat) : gz_D := match (E g).1.getLast? with
  | some f => va_up E t (tk (T.2.2.2.2.1 t) (E t).1 f, (E t).2)
  | none => E
theorem nw_last {l : List Nat} {f : Nat} (e : l.getLast? = some f) : nw l = nI f := by unfold nw; rw [e]
theorem nw_none {l : List Nat} (e : l.getLast? = none) : nw l = -9 := by unfold nw; rw [e]
theorem x_mix81 (V : XV h T E) {t f : Nat} (ht : t < T.2.1) (hf : f < T.1) (al : (E t).2 = false) : ∃ h', fX1_mixAtPond_81 (nI f) 30 (nI t) h = some (nI f, h') ∧ XV h' T (va_up E t (tk (T.2.2.2.2.1 t) (E t).1 f, (E t).2)) ∧ fl h h' := by
  have H := V.H
  have b := V.b
  obtain ⟨h', e, V', f'⟩ := x_takeE V ht hf al
  refine ⟨h', ?_, V', f'⟩
  unfold fX1_mixAtPond_81
  simp (disch := first | assumption | omega | trivial | rfl) only [ck_1, br_s, b2_s, bi_s, lt_d, bo_0, bo_1, lt_d, uI_1, uI_R, uI_L, uF_1, uF_R, uF_L, uL_1, uL_I, uL_R, uR_1, uR_I, uR_L, inb_uI, inb_uF, inb_uL, inb_uR, len_uI, len_uF, sh_uI, sh_uF, sh_uL, sh_uR, rf_0_0, rf_0_1, rf_0_2, rf_0_3, rf_0_4, rf_0_5, rf_0_6, rf_0_7, rf_0_8, rf_0_9, rf_0_12, rf_0_13, rf_0_14, rf_0_15, rf_0_16, rf_0_17, rf_1_1, rf_1_2, rf_10_1, rf_10_2, rf_18_0, rf_21_0, rf_23_0, rf_25_0, rf_79_0, rf_81_0, rf_83_0, rf_28_0, rf_28_1, rf_31_0, rf_33_0, rf_35_0, rf_37_0, rf_39_0, rf_41_0, rf_43_0, rf_43_1, rf_46_0, rf_48_0, rf_50_0, rf_52_0, rf_54_0, rf_56_0, rf_58_0, rf_58_1, rf_61_0, rf_63_0, rf_65_0, rf_67_0, rf_69_0, rf_71_0, rf_85_0, rf_85_2, rf_85_4, rf_85_5, rf_85_6, rf_85_7, rf_85_8, rf_85_9, rf_85_10, rf_85_15, rf_85_19, rf_85_21, rf_85_22, rf_85_23, rf_85_26, rf_85_27, rf_85_28, rf_2, rf_11, rf_30, rf_45, rf_60, rf_27, sgr_31, sgr_46, sgr_61, slr_79, in_2, in_9, ln_9, in_11, in_16, ln_16, in_19, ln_19, in_22, ln_22, in_24, ln_24, in_26, ln_26, in_27, in_29, ln_29, in_30, in_44, ln_44, in_45, in_59, ln_59, in_60, in_73, ln_73, in_74, ln_74, in_75, ln_75, in_76, ln_76, in_77, ln_77, in_78, ln_78, in_80, ln_80, in_82, ln_82, in_84, ln_84, in_86, ln_86, in_87, ln_87, in_88, ln_88, in_89, ln_89, in_90, ln_90, in_91, ln_91, in_92, ln_92, in_93, ln_93, in_94, ln_94, in_95, ln_95, in_96, ln_96, in_97, ln_97, in_98, ln_98, in_99, ln_99, in_100, ln_100, in_101, ln_101, in_102, ln_102, sh_0, sh_1, sh_10, sh_17, sh_18, sh_20, sh_21, sh_23, sh_25, sh_28, sh_43, sh_58, sh_79, sh_81, sh_83, sh_85, sgk_31, sgi_31, sgk_46, sgi_46, sgk_61, sgi_61, slk_79, sli_79, ini_rw, ini_tx, li_0, li_1, li_2, li_3, li_4, li_5, li_6, li_7, li_8, li_9, li_10, li_11, li_12, li_13, li_14, li_15, li_16, li_31, li_32, li_36, li_40, li_48, li_53, li_55, li_56, li_57, li_58, li_60, li_63, li_64, li_80, li_97, li_98, li_99, li_100, li_103, li_104, li_108, li_115, li_116, li_118, li_200, li_256, li_1000, li_2256, not_true_eq_false, not_false_eq_true, Bool.false_eq_true, if_true, if_false, Nat.or_zero, Nat.zero_or, pk_rem, nI_m31, nI_sl, nI_bt, nI_or, nI_sub', nI_n9, nI_9n, nI_n1, bo_n0, bo_n1, bo_if, nI_if, nI_if0, nI_if1, if_10, if_11, t_bits, t_bc, t_has, nI_clamp, nI_add, pk_mul, pk_sub, nI_eq, nI_leI, nI_ltI, if_pos, if_neg, uI_at, uI_to, uI_ne, uF_at, uF_ne, e]
theorem x_mix54 (V : XV h T E) {i j g t w : Nat} (hi : i < T.2.1) (hj : j < T.2.1) (hw : (w = 0 ∧ g = j ∧ t = i) ∨ (w = 1 ∧ g = i ∧ t = j)) (al : (E t).2 = false) : ∃ h', fX1_mixAtPond_54 28 (nI i) (nI j) (nI w) 30 (nI g) h = some (nw (E g).1, h') ∧ XV h' T (mixD T E g t) ∧ fl h h' := by
  have H := V.H
  have b := V.b
  have hg : g < T.2.1 := by rcases hw with ⟨_, q, _⟩ | ⟨_, q, _⟩ <;> rw [q] <;> assumption
  have ht : t < T.2.1 := by rcases hw with ⟨_, _, q⟩ | ⟨_, _, q⟩ <;> rw [q] <;> assumption
  unfold fX1_mixAtPond_54 mixD
  rw [ck_t (in_30 H (by omega)), nI_clamp (by omega), rf_30 H (by omega), br_s, ck_t (sgk_31 H (by omega)), x_newest (V.gv g hg), b2_s]
  cases e : (E g).1.getLast? with
  | none =>
    rw [nw_none e, if_pos rfl]
    exact ⟨h, rfl, V, fl.rf⟩
  | some f =>
    have hf := (V.2.2.1.gd hg).2.2 f (List.mem_of_getLast? e)
    obtain ⟨h', e1, V', f'⟩ := x_mix81 V ht hf al
    refine ⟨h', ?_, V', f'⟩
    rw [nw_last e, if_neg (fun z => by have := (nI_n9 (k := f) (by omega)).mp z; exact this), ck_t (sh_28 H), rf_28_1 H, br_s]
    rcases hw with ⟨q1, q2, q3⟩ | ⟨q1, q2, q3⟩
    · rw [q1, if_pos (by decide), ← q3, e1]
    · rw [q1, if_neg (by decide), ← q3, e1]
theorem x_mix (V : XV h T E) {i j : Nat} (hi : i < T.2.1) (hj : j < T.2.1) (hij : j ≠ i) (ai : (E i).2 = false) (aj : (E j).2 = false) : ∃ h', fX1_mixAtPond 28 (nI i) (nI j) h = some (nw (E (pf_mix T E i j).1).1, h') ∧ XV h' T (mixD T E (pf_mix T E i j).1 (pf_mix T E i j).2) ∧ fl h h' := by
  have H := V.H
  have b := V.b
  have bi := V.bi i hi
  have bj := V.bi j hj
  have c := rk_c ⟨T.2.2.2.2.2 i, by omega⟩ ⟨T.2.2.2.2.2 j, by omega⟩
  dsimp only at c
  obtain ⟨h1, e1, r1⟩ := x_mix54 V hi hj (g := i) (t := j) (w := 1) (Or.inr ⟨rfl, rfl, rfl⟩) aj
  obtain ⟨h0, e0, r0⟩ := x_mix54 V hi hj (g := j) (t := i) (w := 0) (Or.inl ⟨rfl, rfl, rfl⟩) ai
  have k1 : fX1_mixAtPond_33 28 (nI i) (nI j) h = some (nw (E i).1, h1) := by
    unfold fX1_mixAtPond_33 fX1_mixAtPond_38
    rw [ck_t (sh_28 H), rf_28_1 H, br_s, if_neg (by decide)]
    exact e1
  have k0 : fX1_mixAtPond_37 28 (nI i) (nI j) h = some (nw (E j).1, h0) := by
    unfold fX1_mixAtPond_37 fX1_mixAtPond_38
    rw [ck_t (sh_28 H), rf_28_1 H, br_s, if_pos (by decide)]
    exact e0
  unfold fX1_mixAtPond fX1_mixAtPond_0 pf_mix
  rw [ck_t (sh_28 H), rf_28_1 H, br_s, ck_t (in_30 H (by omega)), nI_clamp (by omega), rf_30 H (by omega), br_s, ck_t (sgk_31 H (by omega)), ck_t (in_30 H (by omega)), nI_clamp (by omega), rf_30 H (by omega), br_s, ck_t (sgk_31 H (by omega)), V.rk i hi, V.rk j hj, k1, k0]
  by_cases q1 : T.2.2.2.2.2 j < T.2.2.2.2.2 i
  · rw [if_pos (c.1.mpr q1), if_pos (Or.inl q1)]
    exact ⟨h1, rfl, r1⟩
  · rw [if_neg (fun z => q1 (c.1.mp z))]
    by_cases q2 : T.2.2.2.2.2 i = T.2.2.2.2.2 j
    · rw [if_pos (c.2.mpr q2)]
      by_cases q3 : i < j
      · rw [if_neg (nI_ge q3 (by omega)), if_pos (Or.inr ⟨q2, q3⟩)]
        exact ⟨h1, rfl, r1⟩
      · rw [if_pos (nI_le (by omega) (by omega)), if_neg (fun z => by omega)]
        exact ⟨h0, rfl, r0⟩
    · rw [if_neg (fun z => q2 (c.2.mp z)), if_neg (fun z => by omega)]
      exact ⟨h0, rfl, r0⟩
/-! eating -/
def lostN (T : gz_T) (E : gz_D) : Nat := pc (sd (2 ^ T.1 - 1) (hall E T.2.1))
theorem x_dev48 (V : XV h T E) {i : Nat} (hi : i < T.2.1) : ∃ h', fX1_devour_48 28 (31 + 2 * i) h = some (nI (lostN T (va_up E i ([], true))), h') ∧ XV h' T (va_up E i ([], true)) ∧ fl h h' := by
  have H := V.H
  have b := V.b
  have p2 := p2_lt b.1
  obtain ⟨h', e, V', f'⟩ := x_leaveE V hi
  have H' := V'.H
  refine ⟨h', ?_, V', f'⟩
  have hs : sd (2 ^ T.1 - 1) (hall (va_up E i ([], true)) T.2.1) < 256 := sd_lt (c := 8) (by omega)
  unfold fX1_devour_48 lostN
  rw [ck_t (sgk_31 H (by omega)), e, b2_s, ck_t (sh_28 H'), x_heldByNobody V', b2_s, t_bc hs, b2_s]
theorem up_up {E : gz_D} {i : Nat} {x y : List Nat × Bool} : va_up (va_up E i x) i y = va_up E i y := bx_uu _ _ _ _
theorem up_self {E : gz_D} {i : Nat} : va_up E i (E i) = E := by
  funext j
  by_cases e : j = i
  · subst e; rw [up_at]
  · rw [up_ne e]
theorem take_succ_getD {l : List Nat} {k : Nat} (hk : k < l.length) : l.take (k + 1) = l.take k ++ [l.getD k 0] := by
  rw [List.take_succ, List.getElem?_eq_getElem hk, List.getD_eq_getElem?_getD, List.getElem?_eq_getElem hk]
  rfl
theorem x_devour (V : XV h T E) {i j : Nat} (hi : i < T.2.1) (hj : j = 15 ∨ (j < T.2.1 ∧ j ≠ i)) (aj : j ≠ 15 → (E j).2 = false) : ∃ h', fX1_devour 28 (nI i) (nI j) h = some (nI (lostN T (pf T E (3, i, j))), h') ∧ XV h' T (pf T E (3, i, j)) ∧ fl h h' := by
  have H := V.H
  have b := V.b
  have e3 : pf T E (3, i, j) = if j = 15 then va_up E i ([], true) else va_up (va_up E j ((E i).1.foldl (tk (T.2.2.2.2.1 j)) (E j).1, (E j).2)) i ([], true) := rfl
  unfold fX1_devour fX1_devour_0
  rw [ck_t (sh_28 H), rf_28_1 H, br_s, ck_t (in_30 H (by omega)), nI_clamp (by omega), rf_30 H (by omega), br_s, e3]
  by_cases c : j = 15
  · subst c
    rw [if_pos rfl, if_pos (by decide)]
    exact x_dev48 V hi
  · obtain ⟨hj, hij⟩ := hj.resolve_left c
    have bi := V.bi i hi
    rw [if_neg c, if_neg (show ¬ nI j = (15 : Int32) from fun z => c ((nI_eq (a := j) (b := 15) (by omega) (by decide)).mp z))]
    have hfu : (E i).1.length < 0 + gz_fu := by show (E i).1.length < 0 + 100000; omega
    generalize gz_fu = fu at hfu ⊢
    refine lpr (fun m k (s : gz_H) => fX1_devour_16 m 28 (nI j) (31 + 2 * i) (nI k) s) (fun k s => XV s T (va_up E j (((E i).1.take k).foldl (tk (T.2.2.2.2.1 j)) (E j).1, (E j).2)) ∧ fl h s) (E i).1.length (fun r => ∃ h', r = some (nI (lostN T (va_up (va_up E j ((E i).1.foldl (tk (T.2.2.2.2.1 j)) (E j).1, (E j).2)) i ([], true))), h') ∧ XV h' T (va_up (va_up E j ((E i).1.foldl (tk (T.2.2.2.2.1 j)) (E j).1, (E j).2)) i ([], true)) ∧ fl h h') ?_ ?_ fu 0 h (by omega) hfu ⟨?_, fl.rf⟩
    · intro m s ⟨V1, f1⟩
      rw [List.take_length] at V1
      have H1 := V1.H
      obtain ⟨h', e, V', f'⟩ := x_dev48 V1 hi
      refine ⟨h', ?_, V', f1.tr f'⟩
      have en := V1.mn i hi
      rw [up_ne (fun z => hij z.symm)] at en
      rw [fX1_devour_16, ck_t (sgk_31 H1 (by omega)), en, if_pos (nI_le (Nat.le_refl _) (by omega)), e]
    · intro m k s hk ⟨V1, f1⟩
      have H1 := V1.H
      have hf := (V.2.2.1.gd hi).2.2 _ (ld_mem hk)
      obtain ⟨h', e, V', f'⟩ := x_takeE V1 hj hf (by rw [up_at]; exact aj c)
      rw [up_at, up_up] at V'
      rw [up_at] at e
      refine ⟨h', ⟨?_, f1.tr f'⟩, ?_⟩
      · rw [take_succ_getD hk, List.foldl_append]
        exact V'
      · have en := V1.mn i hi
        have ef := V1.fc i k hi
        rw [up_ne (fun z => hij z.symm)] at en ef
        rw [fX1_devour_16]
        simp (disch := first | assumption | omega | trivial | rfl) only [ck_1, br_s, b2_s, bi_s, lt_d, bo_0, bo_1, lt_d, uI_1, uI_R, uI_L, uF_1, uF_R, uF_L, uL_1, uL_I, uL_R, uR_1, uR_I, uR_L, inb_uI, inb_uF, inb_uL, inb_uR, len_uI, len_uF, sh_uI, sh_uF, sh_uL, sh_uR, rf_0_0, rf_0_1, rf_0_2, rf_0_3, rf_0_4, rf_0_5, rf_0_6, rf_0_7, rf_0_8, rf_0_9, rf_0_12, rf_0_13, rf_0_14, rf_0_15, rf_0_16, rf_0_17, rf_1_1, rf_1_2, rf_10_1, rf_10_2, rf_18_0, rf_21_0, rf_23_0, rf_25_0, rf_79_0, rf_81_0, rf_83_0, rf_28_0, rf_28_1, rf_31_0, rf_33_0, rf_35_0, rf_37_0, rf_39_0, rf_41_0, rf_43_0, rf_43_1, rf_46_0, rf_48_0, rf_50_0, rf_52_0, rf_54_0, rf_56_0, rf_58_0, rf_58_1, rf_61_0, rf_63_0, rf_65_0, rf_67_0, rf_69_0, rf_71_0, rf_85_0, rf_85_2, rf_85_4, rf_85_5, rf_85_6, rf_85_7, rf_85_8, rf_85_9, rf_85_10, rf_85_15, rf_85_19, rf_85_21, rf_85_22, rf_85_23, rf_85_26, rf_85_27, rf_85_28, rf_2, rf_11, rf_30, rf_45, rf_60, rf_27, sgr_31, sgr_46, sgr_61, slr_79, in_2, in_9, ln_9, in_11, in_16, ln_16, in_19, ln_19, in_22, ln_22, in_24, ln_24, in_26, ln_26, in_27, in_29, ln_29, in_30, in_44, ln_44, in_45, in_59, ln_59, in_60, in_73, ln_73, in_74, ln_74, in_75, ln_75, in_76, ln_76, in_77, ln_77, in_78, ln_78, in_80, ln_80, in_82, ln_82, in_84, ln_84, in_86, ln_86, in_87, ln_87, in_88, ln_88, in_89, ln_89, in_90, ln_90, in_91, ln_91, in_92, ln_92, in_93, ln_93, in_94, ln_94, in_95, ln_95, in_96, ln_96, in_97, ln_97, in_98, ln_98, in_99, ln_99, in_100, ln_100, in_101, ln_101, in_102, ln_102, sh_0, sh_1, sh_10, sh_17, sh_18, sh_20, sh_21, sh_23, sh_25, sh_28, sh_43, sh_58, sh_79, sh_81, sh_83, sh_85, sgk_31, sgi_31, sgk_46, sgi_46, sgk_61, sgi_61, slk_79, sli_79, ini_rw, ini_tx, li_0, li_1, li_2, li_3, li_4, li_5, li_6, li_7, li_8, li_9, li_10, li_11, li_12, li_13, li_14, li_15, li_16, li_31, li_32, li_36, li_40, li_48, li_53, li_55, li_56, li_57, li_58, li_60, li_63, li_64, li_80, li_97, li_98, li_99, li_100, li_103, li_104, li_108, li_115, li_116, li_118, li_200, li_256, li_1000, li_2256, not_true_eq_false, not_false_eq_true, Bool.false_eq_true, if_true, if_false, Nat.or_zero, Nat.zero_or, pk_rem, nI_m31, nI_sl, nI_bt, nI_or, nI_sub', nI_n9, nI_9n, nI_n1, bo_n0, bo_n1, bo_if, nI_if, nI_if0, nI_if1, if_10, if_11, t_bits, t_bc, t_has, nI_clamp, nI_add, pk_mul, pk_sub, nI_eq, nI_leI, nI_ltI, if_pos, if_neg, uI_at, uI_to, uI_ne, uF_at, uF_ne, en, ef, e]
    · rw [List.take_zero]
      show XV h T (va_up E j (E j))
      rw [up_self]
      exact V
/-! a deed -/
def pfA (T : gz_T) (E : gz_D) (d : gz_De) : Int32 :=
  if d.1 = 0 then tkA (T.2.2.2.2.1 d.2.1) (E d.2.1).1 d.2.2
  else if d.1 = 1 then nw (E d.2.1).1
  else if d.1 = 2 then nw (E (pf_mix T E d.2.1 d.2.2).1).1
  else nI (lostN T (pf T E d))
theorem x_perform (V : XV h T E) {d : gz_De} (v : vd T d) (l : lv E d) : ∃ h', fX1_perform 28 (nI d.1) (nI d.2.1) (nI d.2.2) h = some (pfA T E d, h') ∧ XV h' T (pf T E d) ∧ fl h h' := by
  have H := V.H
  have b := V.b
  obtain ⟨a, i, j⟩ := d
  obtain ⟨v1, v2, v3, v4, v5, v6⟩ := v
  obtain ⟨l1, l2, l3⟩ := l
  dsimp only at v1 v2 v3 v4 v5 v6 l1 l2 l3
  unfold fX1_perform fX1_perform_0 pfA
  dsimp only
  match a, v1 with
  | 0, _ =>
    obtain ⟨h', e, V', f'⟩ := x_takeE V v2 (v3 rfl) l1
    refine ⟨h', ?_, V', f'⟩
    rw [if_pos (by decide), ck_t (sh_28 H), rf_28_1 H, br_s, ck_t (in_30 H (by omega)), nI_clamp (by omega), rf_30 H (by omega), br_s, ck_t (sgk_31 H (by omega)), e, b2_s, if_pos rfl]
  | 1, _ =>
    obtain ⟨h', e, V', f'⟩ := x_loseE V v2 l1
    refine ⟨h', ?_, V', f'⟩
    rw [if_neg (by decide), if_pos (by decide), ck_t (sh_28 H), rf_28_1 H, br_s, ck_t (in_30 H (by omega)), nI_clamp (by omega), rf_30 H (by omega), br_s, ck_t (sgk_31 H (by omega)), e, b2_s, if_neg (by decide), if_pos rfl]
  | 2, _ =>
    obtain ⟨h', e, V', f'⟩ := x_mix V v2 (v5 rfl).1 (v5 rfl).2 l1 (l2 rfl)
    refine ⟨h', ?_, V', f'⟩
    rw [if_neg (by decide), if_neg (by decide), if_pos (by decide), ck_t (sh_28 H), e, b2_s, if_neg (by decide), if_neg (by decide), if_pos rfl]
  | 3, _ =>
    obtain ⟨h', e, V', f'⟩ := x_devour V v2 (v6 rfl) (l3 rfl)
    refine ⟨h', ?_, V', f'⟩
    rw [if_neg (by decide), if_neg (by decide), if_neg (by decide), ck_t (sh_28 H), e, b2_s, if_neg (by decide), if_neg (by decide), if_neg (by decide)]
end
end
section
/-! PURE: deeds of the reference -/
/-- only the row of now changes, but for how many deeds there are -/
def fm (h h' : gz_H) : Prop := h'.1 = h.1 ∧ h'.2.2 = h.2.2 ∧ ∀ a k, (a ≠ 86 ∨ 56 ≤ k ∨ k = 0) → h'.2.1 a k = h.2.1 a k
theorem fm.rf {h : gz_H} : fm h h := ⟨rfl, rfl, fun _ _ _ => rfl⟩
theorem fm.tr {h h1 h2 : gz_H} (a : fm h h1) (b : fm h1 h2) : fm h h2 := ⟨b.1.trans a.1, b.2.1.trans a.2.1, fun x k e => (b.2.2 x k e).trans (a.2.2 x k e)⟩
/-- a goose of the reference -/
def mg (h : gz_H) (i : Nat) (l : List Nat) : Prop := l.length ≤ 8 ∧ h.2.1 86 (2 + i) = nI l.length ∧ ∀ k, k < l.length → h.2.1 86 (8 + 8 * i + k) = nI (l.getD k 0)
/-- only goose i of the row changes -/
def fg (h h' : gz_H) (i : Nat) : Prop := h'.1 = h.1 ∧ h'.2.2 = h.2.2 ∧ ∀ a k, (a ≠ 86 ∨ (k ≠ 2 + i ∧ (k < 8 + 8 * i ∨ 16 + 8 * i ≤ k))) → h'.2.1 a k = h.2.1 a k
theorem fg.rf {h : gz_H} {i : Nat} : fg h h i := ⟨rfl, rfl, fun _ _ _ => rfl⟩
theorem fg.tr {h h1 h2 : gz_H} {i : Nat} (a : fg h h1 i) (b : fg h1 h2 i) : fg h h2 i := ⟨b.1.trans a.1, b.2.1.trans a.2.1, fun x k e => (b.2.2 x k e).trans (a.2.2 x k e)⟩
theorem fg.fm {h h' : gz_H} {i : Nat} (hi : i < 6) (f : fg h h' i) : fm h h' := ⟨f.1, f.2.1, fun a k e => f.2.2 a k (by omega)⟩
theorem fg.la {h h' : gz_H} {i : Nat} (f : fg h h' i) (H : gz_La h) : gz_La h' := H.of f.1 (congrArg Prod.snd f.2.1)
theorem fg.wr {h : gz_H} {i k : Nat} {v : Int32} (e : k = 2 + i ∨ (8 + 8 * i ≤ k ∧ k < 16 + 8 * i)) : fg h (uI h 86 k v) i := ⟨rfl, rfl, fun a j q => uI_ne (by omega)⟩
section
variable {h : gz_H} {T : gz_T} {E : gz_D}
theorem gb_up {i : Nat} {l : List Nat} {n : Nat} : gbits n (va_up E i (l, (E i).2)) = gbits n E := fo_cg fun j _ => by
  by_cases e : j = i
  · subst e; rw [up_at]
  · rw [up_ne e]
theorem mv_mg (V : MV h T E) {i : Nat} (hi : i < T.2.1) : mg h i (E i).1 := ⟨(V.bi i hi).2.2.2.2.1, V.mn i hi, fun k hk => V.fc i k hi hk⟩
theorem mv_up (V : MV h T E) {i : Nat} (hi : i < T.2.1) {h' : gz_H} {l : List Nat} (f : fg h h' i) (G : mg h' i l) (w : wd T (va_up E i (l, (E i).2))) : MV h' T (va_up E i (l, (E i).2)) := by
  obtain ⟨H, ws, d, ⟨b1, b2, b3, b4⟩, g, x⟩ := V
  have o := f.2.2
  have hb := ws.2.1
  refine ⟨f.la H, ws, w, ⟨by rw [o 85 1 (by omega)]; exact b1, by rw [o 85 3 (by omega)]; exact b2, fun k hk => by rw [o 87 k (by omega)]; exact b3 k hk, fun j hj => by rw [o 88 j (by omega), o 89 j (by omega), o 90 j (by omega)]; exact b4 j hj⟩, by rw [gb_up, o 86 (0 + 1) (by omega)]; exact g, fun j hj => ?_⟩
  by_cases e : j = i
  · subst e
    rw [up_at]
    exact ⟨by rw [Nat.zero_add]; exact G.2.1, fun k hk => by rw [Nat.zero_add]; exact G.2.2 k hk⟩
  · rw [up_ne e]
    have dl := (d j hj).1
    have dm := (ws.bi j hj).2.2.1
    exact ⟨by rw [o 86 _ (by omega)]; exact (x j hj).1, fun k hk => by rw [o 86 _ (by omega)]; exact (x j hj).2 k hk⟩
theorem mg_factOf (H : gz_La h) {i k : Nat} {l : List Nat} (G : mg h i l) (hi : i < 6) (hk : k < l.length) : fX9_factOf 85 (nI i) (nI k) h = some (nI (l.getD k 0), h) := by
  have := G.1
  have e := G.2.2 k hk
  unfold fX9_factOf fX9_factOf_0
  simp (disch := first | assumption | omega | trivial | rfl) only [ck_1, br_s, b2_s, bi_s, lt_d, bo_0, bo_1, lt_d, uI_1, uI_R, uI_L, uF_1, uF_R, uF_L, uL_1, uL_I, uL_R, uR_1, uR_I, uR_L, inb_uI, inb_uF, inb_uL, inb_uR, len_uI, len_uF, sh_uI, sh_uF, sh_uL, sh_uR, rf_0_0, rf_0_1, rf_0_2, rf_0_3, rf_0_4, rf_0_5, rf_0_6, rf_0_7, rf_0_8, rf_0_9, rf_0_12, rf_0_13, rf_0_14, rf_0_15, rf_0_16, rf_0_17, rf_1_1, rf_1_2, rf_10_1, rf_10_2, rf_18_0, rf_21_0, rf_23_0, rf_25_0, rf_79_0, rf_81_0, rf_83_0, rf_28_0, rf_28_1, rf_31_0, rf_33_0, rf_35_0, rf_37_0, rf_39_0, rf_41_0, rf_43_0, rf_43_1, rf_46_0, rf_48_0, rf_50_0, rf_52_0, rf_54_0, rf_56_0, rf_58_0, rf_58_1, rf_61_0, rf_63_0, rf_65_0, rf_67_0, rf_69_0, rf_71_0, rf_85_0, rf_85_2, rf_85_4, rf_85_5, rf_85_6, rf_85_7, rf_85_8, rf_85_9, rf_85_10, rf_85_15, rf_85_19, rf_85_21, rf_85_22, rf_85_23, rf_85_26, rf_85_27, rf_85_28, rf_2, rf_11, rf_30, rf_45, rf_60, rf_27, sgr_31, sgr_46, sgr_61, slr_79, in_2, in_9, ln_9, in_11, in_16, ln_16, in_19, ln_19, in_22, ln_22, in_24, ln_24, in_26, ln_26, in_27, in_29, ln_29, in_30, in_44, ln_44, in_45, in_59, ln_59, in_60, in_73, ln_73, in_74, ln_74, in_75, ln_75, in_76, ln_76, in_77, ln_77, in_78, ln_78, in_80, ln_80, in_82, ln_82, in_84, ln_84, in_86, ln_86, in_87, ln_87, in_88, ln_88, in_89, ln_89, in_90, ln_90, in_91, ln_91, in_92, ln_92, in_93, ln_93, in_94, ln_94, in_95, ln_95, in_96, ln_96, in_97, ln_97, in_98, ln_98, in_99, ln_99, in_100, ln_100, in_101, ln_101, in_102, ln_102, sh_0, sh_1, sh_10, sh_17, sh_18, sh_20, sh_21, sh_23, sh_25, sh_28, sh_43, sh_58, sh_79, sh_81, sh_83, sh_85, sgk_31, sgi_31, sgk_46, sgi_46, sgk_61, sgi_61, slk_79, sli_79, ini_rw, ini_tx, li_0, li_1, li_2, li_3, li_4, li_5, li_6, li_7, li_8, li_9, li_10, li_11, li_12, li_13, li_14, li_15, li_16, li_31, li_32, li_36, li_40, li_48, li_53, li_55, li_56, li_57, li_58, li_60, li_63, li_64, li_80, li_97, li_98, li_99, li_100, li_103, li_104, li_108, li_115, li_116, li_118, li_200, li_256, li_1000, li_2256, not_true_eq_false, not_false_eq_true, Bool.false_eq_true, if_true, if_false, Nat.or_zero, Nat.zero_or, pk_rem, nI_m31, nI_sl, nI_bt, nI_or, nI_sub', nI_n9, nI_9n, nI_n1, bo_n0, bo_n1, bo_if, nI_if, nI_if0, nI_if1, if_10, if_11, t_bits, t_bc, t_has, nI_clamp, nI_add, pk_mul, pk_sub, nI_eq, nI_leI, nI_ltI, if_pos, if_neg, uI_at, uI_to, uI_ne, uF_at, uF_ne, e]
theorem m_drop (H : gz_La h) {i : Nat} {l : List Nat} (G : mg h i l) (hi : i < 6) {a b : List Nat} {x : Nat} (e : l = a ++ x :: b) : ∃ h', fX9_drop 85 (nI i) (nI a.length) h = some ((), h') ∧ mg h' i (a ++ b) ∧ fg h h' i := by
  have hl : l.length = a.length + (b.length + 1) := by rw [e]; simp
  obtain ⟨G1, G2, G3⟩ := G
  unfold fX9_drop fX9_drop_0
  simp (disch := first | assumption | omega | trivial | rfl) only [ck_1, br_s, b2_s, bi_s, lt_d, bo_0, bo_1, lt_d, uI_1, uI_R, uI_L, uF_1, uF_R, uF_L, uL_1, uL_I, uL_R, uR_1, uR_I, uR_L, inb_uI, inb_uF, inb_uL, inb_uR, len_uI, len_uF, sh_uI, sh_uF, sh_uL, sh_uR, rf_0_0, rf_0_1, rf_0_2, rf_0_3, rf_0_4, rf_0_5, rf_0_6, rf_0_7, rf_0_8, rf_0_9, rf_0_12, rf_0_13, rf_0_14, rf_0_15, rf_0_16, rf_0_17, rf_1_1, rf_1_2, rf_10_1, rf_10_2, rf_18_0, rf_21_0, rf_23_0, rf_25_0, rf_79_0, rf_81_0, rf_83_0, rf_28_0, rf_28_1, rf_31_0, rf_33_0, rf_35_0, rf_37_0, rf_39_0, rf_41_0, rf_43_0, rf_43_1, rf_46_0, rf_48_0, rf_50_0, rf_52_0, rf_54_0, rf_56_0, rf_58_0, rf_58_1, rf_61_0, rf_63_0, rf_65_0, rf_67_0, rf_69_0, rf_71_0, rf_85_0, rf_85_2, rf_85_4, rf_85_5, rf_85_6, rf_85_7, rf_85_8, rf_85_9, rf_85_10, rf_85_15, rf_85_19, rf_85_21, rf_85_22, rf_85_23, rf_85_26, rf_85_27, rf_85_28, rf_2, rf_11, rf_30, rf_45, rf_60, rf_27, sgr_31, sgr_46, sgr_61, slr_79, in_2, in_9, ln_9, in_11, in_16, ln_16, in_19, ln_19, in_22, ln_22, in_24, ln_24, in_26, ln_26, in_27, in_29, ln_29, in_30, in_44, ln_44, in_45, in_59, ln_59, in_60, in_73, ln_73, in_74, ln_74, in_75, ln_75, in_76, ln_76, in_77, ln_77, in_78, ln_78, in_80, ln_80, in_82, ln_82, in_84, ln_84, in_86, ln_86, in_87, ln_87, in_88, ln_88, in_89, ln_89, in_90, ln_90, in_91, ln_91, in_92, ln_92, in_93, ln_93, in_94, ln_94, in_95, ln_95, in_96, ln_96, in_97, ln_97, in_98, ln_98, in_99, ln_99, in_100, ln_100, in_101, ln_101, in_102, ln_102, sh_0, sh_1, sh_10, sh_17, sh_18, sh_20, sh_21, sh_23, sh_25, sh_28, sh_43, sh_58, sh_79, sh_81, sh_83, sh_85, sgk_31, sgi_31, sgk_46, sgi_46, sgk_61, sgi_61, slk_79, sli_79, ini_rw, ini_tx, li_0, li_1, li_2, li_3, li_4, li_5, li_6, li_7, li_8, li_9, li_10, li_11, li_12, li_13, li_14, li_15, li_16, li_31, li_32, li_36, li_40, li_48, li_53, li_55, li_56, li_57, li_58, li_60, li_63, li_64, li_80, li_97, li_98, li_99, li_100, li_103, li_104, li_108, li_115, li_116, li_118, li_200, li_256, li_1000, li_2256, not_true_eq_false, not_false_eq_true, Bool.false_eq_true, if_true, if_false, Nat.or_zero, Nat.zero_or, pk_rem, nI_m31, nI_sl, nI_bt, nI_or, nI_sub', nI_n9, nI_9n, nI_n1, bo_n0, bo_n1, bo_if, nI_if, nI_if0, nI_if1, if_10, if_11, t_bits, t_bc, t_has, nI_clamp, nI_add, pk_mul, pk_sub, nI_eq, nI_leI, nI_ltI, if_pos, if_neg, uI_at, uI_to, uI_ne, uF_at, uF_ne, G2]
  have hfu : l.length - 1 < a.length + gz_fu := by show l.length - 1 < a.length + 100000; omega
  generalize gz_fu = fu at hfu ⊢
  refine lpr (fun m k (s : gz_H) => fX9_drop_14 m 85 (nI i) (nI k) s) (fun k s => a.length ≤ k ∧ fg h s i ∧ s.2.1 86 (2 + i) = nI (l.length - 1) ∧ ∀ q, q < l.length → s.2.1 86 (8 + 8 * i + q) = nI (if a.length ≤ q ∧ q < k then l.getD (q + 1) 0 else l.getD q 0)) (l.length - 1) (fun r => ∃ h', r = some ((), h') ∧ mg h' i (a ++ b) ∧ fg h h' i) ?_ ?_ fu a.length _ (by omega) hfu ⟨Nat.le_refl _, fg.wr (Or.inl rfl), uI_at, fun q hq => ?_⟩
  · intro m s ⟨_, f1, e1, e2⟩
    have H1 := f1.la H
    refine ⟨s, ?_, ⟨by simp; omega, by rw [e1]; congr 1; simp; omega, fun q hq => ?_⟩, f1⟩
    · rw [fX9_drop_14]
      simp (disch := first | assumption | omega | trivial | rfl) only [ck_1, br_s, b2_s, bi_s, lt_d, bo_0, bo_1, lt_d, uI_1, uI_R, uI_L, uF_1, uF_R, uF_L, uL_1, uL_I, uL_R, uR_1, uR_I, uR_L, inb_uI, inb_uF, inb_uL, inb_uR, len_uI, len_uF, sh_uI, sh_uF, sh_uL, sh_uR, rf_0_0, rf_0_1, rf_0_2, rf_0_3, rf_0_4, rf_0_5, rf_0_6, rf_0_7, rf_0_8, rf_0_9, rf_0_12, rf_0_13, rf_0_14, rf_0_15, rf_0_16, rf_0_17, rf_1_1, rf_1_2, rf_10_1, rf_10_2, rf_18_0, rf_21_0, rf_23_0, rf_25_0, rf_79_0, rf_81_0, rf_83_0, rf_28_0, rf_28_1, rf_31_0, rf_33_0, rf_35_0, rf_37_0, rf_39_0, rf_41_0, rf_43_0, rf_43_1, rf_46_0, rf_48_0, rf_50_0, rf_52_0, rf_54_0, rf_56_0, rf_58_0, rf_58_1, rf_61_0, rf_63_0, rf_65_0, rf_67_0, rf_69_0, rf_71_0, rf_85_0, rf_85_2, rf_85_4, rf_85_5, rf_85_6, rf_85_7, rf_85_8, rf_85_9, rf_85_10, rf_85_15, rf_85_19, rf_85_21, rf_85_22, rf_85_23, rf_85_26, rf_85_27, rf_85_28, rf_2, rf_11, rf_30, rf_45, rf_60, rf_27, sgr_31, sgr_46, sgr_61, slr_79, in_2, in_9, ln_9, in_11, in_16, ln_16, in_19, ln_19, in_22, ln_22, in_24, ln_24, in_26, ln_26, in_27, in_29, ln_29, in_30, in_44, ln_44, in_45, in_59, ln_59, in_60, in_73, ln_73, in_74, ln_74, in_75, ln_75, in_76, ln_76, in_77, ln_77, in_78, ln_78, in_80, ln_80, in_82, ln_82, in_84, ln_84, in_86, ln_86, in_87, ln_87, in_88, ln_88, in_89, ln_89, in_90, ln_90, in_91, ln_91, in_92, ln_92, in_93, ln_93, in_94, ln_94, in_95, ln_95, in_96, ln_96, in_97, ln_97, in_98, ln_98, in_99, ln_99, in_100, ln_100, in_101, ln_101, in_102, ln_102, sh_0, sh_1, sh_10, sh_17, sh_18, sh_20, sh_21, sh_23, sh_25, sh_28, sh_43, sh_58, sh_79, sh_81, sh_83, sh_85, sgk_31, sgi_31, sgk_46, sgi_46, sgk_61, sgi_61, slk_79, sli_79, ini_rw, ini_tx, li_0, li_1, li_2, li_3, li_4, li_5, li_6, li_7, li_8, li_9, li_10, li_11, li_12, li_13, li_14, li_15, li_16, li_31, li_32, li_36, li_40, li_48, li_53, li_55, li_56, li_57, li_58, li_60, li_63, li_64, li_80, li_97, li_98, li_99, li_100, li_103, li_104, li_108, li_115, li_116, li_118, li_200, li_256, li_1000, li_2256, not_true_eq_false, not_false_eq_true, Bool.false_eq_true, if_true, if_false, Nat.or_zero, Nat.zero_or, pk_rem, nI_m31, nI_sl, nI_bt, nI_or, nI_sub', nI_n9, nI_9n, nI_n1, bo_n0, bo_n1, bo_if, nI_if, nI_if0, nI_if1, if_10, if_11, t_bits, t_bc, t_has, nI_clamp, nI_add, pk_mul, pk_sub, nI_eq, nI_leI, nI_ltI, if_pos, if_neg, uI_at, uI_to, uI_ne, uF_at, uF_ne, e1]
    · have hq2 : q < a.length + b.length := by simpa using hq
      rw [e2 q (by omega)]
      by_cases c : a.length ≤ q
      · rw [if_pos ⟨c, by omega⟩, e, ld_ge (by omega), ld_ge c, show q + 1 - a.length = (q - a.length) + 1 by omega]
        rfl
      · rw [if_neg (fun z => c z.1), e, ld_lt (show q < a.length by omega), ld_lt (show q < a.length by omega)]
  · intro m k s hk ⟨ck, f1, e1, e2⟩
    have H1 := f1.la H
    · refine ⟨uI s 86 (8 + 8 * i + k) (nI (l.getD (k + 1) 0)), ⟨by omega, f1.tr (fg.wr (by omega)), by rw [uI_ne (by omega)]; exact e1, fun q hq => ?_⟩, ?_⟩
      · by_cases c : q = k
        · subst c
          rw [uI_at, if_pos ⟨ck, by omega⟩]
        · rw [uI_ne (by omega), e2 q hq]
          by_cases c2 : a.length ≤ q ∧ q < k
          · rw [if_pos c2, if_pos (by omega)]
          · rw [if_neg c2, if_neg (by omega)]
      · have e3 := e2 (k + 1) (by omega)
        rw [if_neg (by omega)] at e3
        have e4 : fX9_factOf 85 (nI i) (nI (k + 1)) s = some (nI (l.getD (k + 1) 0), s) := by
          unfold fX9_factOf fX9_factOf_0
          simp (disch := first | assumption | omega | trivial | rfl) only [ck_1, br_s, b2_s, bi_s, lt_d, bo_0, bo_1, lt_d, uI_1, uI_R, uI_L, uF_1, uF_R, uF_L, uL_1, uL_I, uL_R, uR_1, uR_I, uR_L, inb_uI, inb_uF, inb_uL, inb_uR, len_uI, len_uF, sh_uI, sh_uF, sh_uL, sh_uR, rf_0_0, rf_0_1, rf_0_2, rf_0_3, rf_0_4, rf_0_5, rf_0_6, rf_0_7, rf_0_8, rf_0_9, rf_0_12, rf_0_13, rf_0_14, rf_0_15, rf_0_16, rf_0_17, rf_1_1, rf_1_2, rf_10_1, rf_10_2, rf_18_0, rf_21_0, rf_23_0, rf_25_0, rf_79_0, rf_81_0, rf_83_0, rf_28_0, rf_28_1, rf_31_0, rf_33_0, rf_35_0, rf_37_0, rf_39_0, rf_41_0, rf_43_0, rf_43_1, rf_46_0, rf_48_0, rf_50_0, rf_52_0, rf_54_0, rf_56_0, rf_58_0, rf_58_1, rf_61_0, rf_63_0, rf_65_0, rf_67_0, rf_69_0, rf_71_0, rf_85_0, rf_85_2, rf_85_4, rf_85_5, rf_85_6, rf_85_7, rf_85_8, rf_85_9, rf_85_10, rf_85_15, rf_85_19, rf_85_21, rf_85_22, rf_85_23, rf_85_26, rf_85_27, rf_85_28, rf_2, rf_11, rf_30, rf_45, rf_60, rf_27, sgr_31, sgr_46, sgr_61, slr_79, in_2, in_9, ln_9, in_11, in_16, ln_16, in_19, ln_19, in_22, ln_22, in_24, ln_24, in_26, ln_26, in_27, in_29, ln_29, in_30, in_44, ln_44, in_45, in_59, ln_59, in_60, in_73, ln_73, in_74, ln_74, in_75, ln_75, in_76, ln_76, in_77, ln_77, in_78, ln_78, in_80, ln_80, in_82, ln_82, in_84, ln_84, in_86, ln_86, in_87, ln_87, in_88, ln_88, in_89, ln_89, in_90, ln_90, in_91, ln_91, in_92, ln_92, in_93, ln_93, in_94, ln_94, in_95, ln_95, in_96, ln_96, in_97, ln_97, in_98, ln_98, in_99, ln_99, in_100, ln_100, in_101, ln_101, in_102, ln_102, sh_0, sh_1, sh_10, sh_17, sh_18, sh_20, sh_21, sh_23, sh_25, sh_28, sh_43, sh_58, sh_79, sh_81, sh_83, sh_85, sgk_31, sgi_31, sgk_46, sgi_46, sgk_61, sgi_61, slk_79, sli_79, ini_rw, ini_tx, li_0, li_1, li_2, li_3, li_4, li_5, li_6, li_7, li_8, li_9, li_10, li_11, li_12, li_13, li_14, li_15, li_16, li_31, li_32, li_36, li_40, li_48, li_53, li_55, li_56, li_57, li_58, li_60, li_63, li_64, li_80, li_97, li_98, li_99, li_100, li_103, li_104, li_108, li_115, li_116, li_118, li_200, li_256, li_1000, li_2256, not_true_eq_false, not_false_eq_true, Bool.false_eq_true, if_true, if_false, Nat.or_zero, Nat.zero_or, pk_rem, nI_m31, nI_sl, nI_bt, nI_or, nI_sub', nI_n9, nI_9n, nI_n1, bo_n0, bo_n1, bo_if, nI_if, nI_if0, nI_if1, if_10, if_11, t_bits, t_bc, t_has, nI_clamp, nI_add, pk_mul, pk_sub, nI_eq, nI_leI, nI_ltI, if_pos, if_neg, uI_at, uI_to, uI_ne, uF_at, uF_ne, e3]
        rw [fX9_drop_14]
        simp (disch := first | assumption | omega | trivial | rfl) only [ck_1, br_s, b2_s, bi_s, lt_d, bo_0, bo_1, lt_d, uI_1, uI_R, uI_L, uF_1, uF_R, uF_L, uL_1, uL_I, uL_R, uR_1, uR_I, uR_L, inb_uI, inb_uF, inb_uL, inb_uR, len_uI, len_uF, sh_uI, sh_uF, sh_uL, sh_uR, rf_0_0, rf_0_1, rf_0_2, rf_0_3, rf_0_4, rf_0_5, rf_0_6, rf_0_7, rf_0_8, rf_0_9, rf_0_12, rf_0_13, rf_0_14, rf_0_15, rf_0_16, rf_0_17, rf_1_1, rf_1_2, rf_10_1, rf_10_2, rf_18_0, rf_21_0, rf_23_0, rf_25_0, rf_79_0, rf_81_0, rf_83_0, rf_28_0, rf_28_1, rf_31_0, rf_33_0, rf_35_0, rf_37_0, rf_39_0, rf_41_0, rf_43_0, rf_43_1, rf_46_0, rf_48_0, rf_50_0, rf_52_0, rf_54_0, rf_56_0, rf_58_0, rf_58_1, rf_61_0, rf_63_0, rf_65_0, rf_67_0, rf_69_0, rf_71_0, rf_85_0, rf_85_2, rf_85_4, rf_85_5, rf_85_6, rf_85_7, rf_85_8, rf_85_9, rf_85_10, rf_85_15, rf_85_19, rf_85_21, rf_85_22, rf_85_23, rf_85_26, rf_85_27, rf_85_28, rf_2, rf_11, rf_30, rf_45, rf_60, rf_27, sgr_31, sgr_46, sgr_61, slr_79, in_2, in_9, ln_9, in_11, in_16, ln_16, in_19, ln_19, in_22, ln_22, in_24, ln_24, in_26, ln_26, in_27, in_29, ln_29, in_30, in_44, ln_44, in_45, in_59, ln_59, in_60, in_73, ln_73, in_74, ln_74, in_75, ln_75, in_76, ln_76, in_77, ln_77, in_78, ln_78, in_80, ln_80, in_82, ln_82, in_84, ln_84, in_86, ln_86, in_87, ln_87, in_88, ln_88, in_89, ln_89, in_90, ln_90, in_91, ln_91, in_92, ln_92, in_93, ln_93, in_94, ln_94, in_95, ln_95, in_96, ln_96, in_97, ln_97, in_98, ln_98, in_99, ln_99, in_100, ln_100, in_101, ln_101, in_102, ln_102, sh_0, sh_1, sh_10, sh_17, sh_18, sh_20, sh_21, sh_23, sh_25, sh_28, sh_43, sh_58, sh_79, sh_81, sh_83, sh_85, sgk_31, sgi_31, sgk_46, sgi_46, sgk_61, sgi_61, slk_79, sli_79, ini_rw, ini_tx, li_0, li_1, li_2, li_3, li_4, li_5, li_6, li_7, li_8, li_9, li_10, li_11, li_12, li_13, li_14, li_15, li_16, li_31, li_32, li_36, li_40, li_48, li_53, li_55, li_56, li_57, li_58, li_60, li_63, li_64, li_80, li_97, li_98, li_99, li_100, li_103, li_104, li_108, li_115, li_116, li_118, li_200, li_256, li_1000, li_2256, not_true_eq_false, not_false_eq_true, Bool.false_eq_true, if_true, if_false, Nat.or_zero, Nat.zero_or, pk_rem, nI_m31, nI_sl, nI_bt, nI_or, nI_sub', nI_n9, nI_9n, nI_n1, bo_n0, bo_n1, bo_if, nI_if, nI_if0, nI_if1, if_10, if_11, t_bits, t_bc, t_has, nI_clamp, nI_add, pk_mul, pk_sub, nI_eq, nI_leI, nI_ltI, if_pos, if_neg, uI_at, uI_to, uI_ne, uF_at, uF_ne, e1, e4]
  · rw [uI_ne (by omega), if_neg (by omega)]
    exact G3 q hq
theorem m_put (H : gz_La h) {i : Nat} {l : List Nat} (G : mg h i l) (hi : i < 6) (hl : l.length < 8) (f : Nat) (y : Int32) : ∃ h', fX9_doGive_96 85 (nI i) (nI f) y h = some (y, h') ∧ mg h' i (l ++ [f]) ∧ fg h h' i := by
  obtain ⟨G1, G2, G3⟩ := G
  refine ⟨uI (uI h 86 (8 + 8 * i + l.length) (nI f)) 86 (2 + i) (nI (l.length + 1)), ?_, ⟨by simp; omega, by rw [uI_at]; simp, fun k hk => ?_⟩, (fg.wr (by omega)).tr (fg.wr (by omega))⟩
  · unfold fX9_doGive_96
    simp (disch := first | assumption | omega | trivial | rfl) only [ck_1, br_s, b2_s, bi_s, lt_d, bo_0, bo_1, lt_d, uI_1, uI_R, uI_L, uF_1, uF_R, uF_L, uL_1, uL_I, uL_R, uR_1, uR_I, uR_L, inb_uI, inb_uF, inb_uL, inb_uR, len_uI, len_uF, sh_uI, sh_uF, sh_uL, sh_uR, rf_0_0, rf_0_1, rf_0_2, rf_0_3, rf_0_4, rf_0_5, rf_0_6, rf_0_7, rf_0_8, rf_0_9, rf_0_12, rf_0_13, rf_0_14, rf_0_15, rf_0_16, rf_0_17, rf_1_1, rf_1_2, rf_10_1, rf_10_2, rf_18_0, rf_21_0, rf_23_0, rf_25_0, rf_79_0, rf_81_0, rf_83_0, rf_28_0, rf_28_1, rf_31_0, rf_33_0, rf_35_0, rf_37_0, rf_39_0, rf_41_0, rf_43_0, rf_43_1, rf_46_0, rf_48_0, rf_50_0, rf_52_0, rf_54_0, rf_56_0, rf_58_0, rf_58_1, rf_61_0, rf_63_0, rf_65_0, rf_67_0, rf_69_0, rf_71_0, rf_85_0, rf_85_2, rf_85_4, rf_85_5, rf_85_6, rf_85_7, rf_85_8, rf_85_9, rf_85_10, rf_85_15, rf_85_19, rf_85_21, rf_85_22, rf_85_23, rf_85_26, rf_85_27, rf_85_28, rf_2, rf_11, rf_30, rf_45, rf_60, rf_27, sgr_31, sgr_46, sgr_61, slr_79, in_2, in_9, ln_9, in_11, in_16, ln_16, in_19, ln_19, in_22, ln_22, in_24, ln_24, in_26, ln_26, in_27, in_29, ln_29, in_30, in_44, ln_44, in_45, in_59, ln_59, in_60, in_73, ln_73, in_74, ln_74, in_75, ln_75, in_76, ln_76, in_77, ln_77, in_78, ln_78, in_80, ln_80, in_82, ln_82, in_84, ln_84, in_86, ln_86, in_87, ln_87, in_88, ln_88, in_89, ln_89, in_90, ln_90, in_91, ln_91, in_92, ln_92, in_93, ln_93, in_94, ln_94, in_95, ln_95, in_96, ln_96, in_97, ln_97, in_98, ln_98, in_99, ln_99, in_100, ln_100, in_101, ln_101, in_102, ln_102, sh_0, sh_1, sh_10, sh_17, sh_18, sh_20, sh_21, sh_23, sh_25, sh_28, sh_43, sh_58, sh_79, sh_81, sh_83, sh_85, sgk_31, sgi_31, sgk_46, sgi_46, sgk_61, sgi_61, slk_79, sli_79, ini_rw, ini_tx, li_0, li_1, li_2, li_3, li_4, li_5, li_6, li_7, li_8, li_9, li_10, li_11, li_12, li_13, li_14, li_15, li_16, li_31, li_32, li_36, li_40, li_48, li_53, li_55, li_56, li_57, li_58, li_60, li_63, li_64, li_80, li_97, li_98, li_99, li_100, li_103, li_104, li_108, li_115, li_116, li_118, li_200, li_256, li_1000, li_2256, not_true_eq_false, not_false_eq_true, Bool.false_eq_true, if_true, if_false, Nat.or_zero, Nat.zero_or, pk_rem, nI_m31, nI_sl, nI_bt, nI_or, nI_sub', nI_n9, nI_9n, nI_n1, bo_n0, bo_n1, bo_if, nI_if, nI_if0, nI_if1, if_10, if_11, t_bits, t_bc, t_has, nI_clamp, nI_add, pk_mul, pk_sub, nI_eq, nI_leI, nI_ltI, if_pos, if_neg, uI_at, uI_to, uI_ne, uF_at, uF_ne, G2]
  · have hk2 : k < l.length + 1 := by simpa using hk
    rw [uI_ne (by omega)]
    by_cases c : k = l.length
    · rw [c, uI_at, ld_app]
    · rw [uI_ne (by omega), G3 k (by omega), ld_lt (by omega)]
def ia (f : Nat) (l : List Nat) : Nat → Int32
  | 0 => -9
  | k + 1 => if l.getD k 0 = f then nI k else ia f l k
theorem ia_no {f : Nat} {l : List Nat} : ∀ k, (∀ j, j < k → l.getD j 0 ≠ f) → ia f l k = -9 := by
  intro k
  induction k with
  | zero => intro _; rfl
  | succ k ih => intro h; rw [ia, if_neg (h k (by omega))]; exact ih fun j hj => h j (by omega)
theorem ia_at {f i : Nat} {l : List Nat} (e : l.getD i 0 = f) : ∀ k, i < k → (∀ j, i < j → j < k → l.getD j 0 ≠ f) → ia f l k = nI i := by
  intro k
  induction k with
  | zero => intro h; omega
  | succ k ih =>
    intro h1 h2
    rw [ia]
    by_cases c : i = k
    · subst c; rw [if_pos e]
    · rw [if_neg (h2 k (by omega) (by omega))]
      exact ih (by omega) fun j h3 h4 => h2 j h3 (by omega)
theorem m_take (H : gz_La h) {i mo f : Nat} {l : List Nat} (G : mg h i l) (hi : i < 6) (hm : h.2.1 89 i = nI mo) (h1 : 1 ≤ mo) (hmo : mo ≤ 8) (hlm : l.length ≤ mo) (nd : l.Nodup) (hb : ∀ x ∈ l, x < 8) (hf : f < 8) : ∃ h', fX9_doGive 85 (nI i) (nI f) h = some (tkA mo l f, h') ∧ mg h' i (tk mo l f) ∧ fg h h' i := by
  have G0 := G
  obtain ⟨G1, G2, G3⟩ := G
  unfold fX9_doGive fX9_doGive_0
  have hfu : l.length < 0 + gz_fu := by show l.length < 0 + 100000; omega
  generalize gz_fu = fu at hfu ⊢
  have lpk := fun r fin => lp (fun m k (x : Int32) => fX9_doGive_10 m 85 (nI i) (nI f) (-9) x (nI k) h) (fun k => ia f l k) l.length r fin (by
    intro m k hk
    have hx := hb _ (ld_mem hk)
    have e4 := mg_factOf H G0 hi hk
    rw [fX9_doGive_10, ck_t (sh_85 H), rf_85_0 H, br_s, show (2 : Int32) = nI 2 from rfl, nI_add, ck_t (in_86 H (by omega)), nI_clamp (by omega), G2, if_neg (nI_ge hk (by omega)), e4, b2_s, ia]
    unfold fX9_doGive_41
    rw [nI_1]
    by_cases c : l.getD k 0 = f
    · rw [if_pos (by rw [c]), if_pos c]
    · rw [if_neg (fun z => c ((nI_eq (by omega) (by omega)).mp z)), if_neg c]) fu 0 (by omega) hfu
  have st : ∀ m x, fX9_doGive_10 (m + 1) 85 (nI i) (nI f) (-9) x (nI l.length) h = if x = (-9 : Int32) then (if nI l.length = nI mo then gz_b2 (fX9_factOf 85 (nI i) (0 : Int32) h) (fun y_10 h_9 => gz_ck (gz_sh h_9 85 9 29) (gz_b2 (fX9_drop 85 (nI i) (0 : Int32) h_9) fun _ h_11 => fX9_doGive_96 85 (nI i) (nI f) y_10 h_11)) else fX9_doGive_96 85 (nI i) (nI f) (-9) h) else gz_b2 (fX9_drop 85 (nI i) x h) (fun _ h_14 => fX9_doGive_96 85 (nI i) (nI f) (-9) h_14) := by
    intro m x
    rw [fX9_doGive_10, ck_t (sh_85 H), rf_85_0 H, br_s, show (2 : Int32) = nI 2 from rfl, nI_add, ck_t (in_86 H (by omega)), nI_clamp (by omega), G2, if_pos (nI_le (Nat.le_refl _) (by omega)), rf_85_5 H, br_s, ck_t (in_89 H hi), nI_clamp (by omega), hm]
  by_cases e : f ∈ l
  · obtain ⟨a, b, e1, e2⟩ := List.eq_append_cons_of_mem e
    have nb : f ∉ b := by
      rw [e1] at nd
      have := (List.nodup_append.mp nd).2.1
      exact (List.nodup_cons.mp this).1
    have hl : l.length = a.length + (b.length + 1) := by rw [e1]; simp
    have eia : ia f l l.length = nI a.length := ia_at (by rw [e1]; exact ld_app) _ (by omega) (fun j h3 h4 z => nb (by
      rw [e1, ld_ge (by omega), show j - a.length = (j - a.length - 1) + 1 by omega] at z
      have z2 : b.getD (j - a.length - 1) 0 = f := z
      rw [← z2]
      exact ld_mem (by omega)))
    obtain ⟨h1, d1, d2, d3⟩ := m_drop H G0 hi e1
    obtain ⟨h2, p1, p2, p3⟩ := m_put (d3.la H) d2 hi (by simp; omega) f (-9)
    refine ⟨h2, lpk _ ?_, ?_, d3.tr p3⟩
    · intro m
      rw [eia, st, if_neg (show ¬ nI a.length = (-9 : Int32) from fun z => (nI_n9 (k := a.length) (by omega)).mp z), d1, b2_s, p1]
      unfold tkA
      rw [if_pos e]
    · rw [e1, tk_at e2]
      exact p2
  · have eia : ia f l l.length = -9 := ia_no _ (fun j hj z => e (by rw [← z]; exact ld_mem hj))
    by_cases c : mo ≤ l.length
    · cases hl : l with
      | nil => rw [hl] at c; simp at c; omega
      | cons x b =>
        have hl2 : l.length = b.length + 1 := by rw [hl]; simp
        obtain ⟨h1, d1, d2, d3⟩ := m_drop H G0 hi (a := []) (x := x) (b := b) hl
        obtain ⟨h2, p1, p2, p3⟩ := m_put (d3.la H) d2 hi (by simp; omega) f (nI x)
        have e4 := mg_factOf H G0 hi (k := 0) (by omega)
        rw [hl] at e4
        have e4' : fX9_factOf 85 (nI i) (0 : Int32) h = some (nI x, h) := e4
        have d1' : fX9_drop 85 (nI i) (0 : Int32) h = some ((), h1) := d1
        refine ⟨h2, ?_, ?_, d3.tr p3⟩
        · have := lpk (some (nI x, h2)) (by
            intro m
            rw [eia, st, if_pos rfl, if_pos (by rw [show l.length = mo by omega]), e4', b2_s, ck_t (sh_85 H), d1', b2_s, p1])
          rw [← hl]
          unfold tkA
          rw [if_neg e, if_pos c, hl]
          exact this
        · rw [hl] at e c
          rw [tk_full e (by simpa using c)]
          exact p2
    · obtain ⟨h2, p1, p2, p3⟩ := m_put H G0 hi (by omega) f (-9)
      refine ⟨h2, lpk _ ?_, ?_, p3⟩
      · intro m
        rw [eia, st, if_pos rfl, if_neg (fun z => c (by have := (nI_eq (by omega) (by omega)).mp z; omega)), p1]
        unfold tkA
        rw [if_neg e, if_neg c]
      · rw [tk_add e c]
        exact p2
theorem m_takeE (V : MV h T E) {i f : Nat} (hi : i < T.2.1) (hf : f < T.1) (al : (E i).2 = false) : ∃ h', fX9_doGive 85 (nI i) (nI f) h = some (tkA (T.2.2.2.2.1 i) (E i).1 f, h') ∧ MV h' T (va_up E i (tk (T.2.2.2.2.1 i) (E i).1 f, (E i).2)) ∧ fm h h' := by
  have b := V.b
  have bi := V.bi i hi
  obtain ⟨h', e, G, fr⟩ := m_take V.H (mv_mg V hi) (by omega) (V.mo i hi) bi.2.1 bi.2.2.1 bi.2.2.2.2.2 (V.2.2.1 i hi).2.1 (fun x hx => (wd.bf V.2.1 V.2.2.1 i hi hx).2) (f := f) (by omega)
  exact ⟨h', e, mv_up V hi fr G (wd_up V.2.2.1 (fun _ => gd_tk V.2.1 hi hf (V.2.2.1.gd hi)) (lv_e al)), fr.fm (by omega)⟩
theorem m_fright (V : MV h T E) {i : Nat} (hi : i < T.2.1) (al : (E i).2 = false) : ∃ h', fX9_doFright 85 (nI i) h = some (nw (E i).1, h') ∧ MV h' T (va_up E i ((E i).1.dropLast, (E i).2)) ∧ fm h h' := by
  have H := V.H
  have b := V.b
  have bi := V.bi i hi
  have g := V.2.2.1.gd hi
  have w : wd T (va_up E i ((E i).1.dropLast, (E i).2)) := wd_up V.2.2.1 (fun _ => ⟨by have := g.1; simp; omega, g.2.1.sublist (List.dropLast_sublist _), fun f hf => g.2.2 f (List.dropLast_subset _ hf)⟩) (lv_e al)
  unfold fX9_doFright fX9_doFright_0 fX9_doFright_27
  rcases List.eq_nil_or_concat (E i).1 with e | ⟨a, f, e⟩
  · have e0 : (E i).1.length = 0 := by rw [e]; rfl
    refine ⟨uI h 86 (2 + i) (nI 0), ?_, ?_, (fg.wr (Or.inl rfl)).fm (by omega)⟩
    · simp (disch := first | assumption | omega | trivial | rfl) only [ck_1, br_s, b2_s, bi_s, lt_d, bo_0, bo_1, lt_d, uI_1, uI_R, uI_L, uF_1, uF_R, uF_L, uL_1, uL_I, uL_R, uR_1, uR_I, uR_L, inb_uI, inb_uF, inb_uL, inb_uR, len_uI, len_uF, sh_uI, sh_uF, sh_uL, sh_uR, rf_0_0, rf_0_1, rf_0_2, rf_0_3, rf_0_4, rf_0_5, rf_0_6, rf_0_7, rf_0_8, rf_0_9, rf_0_12, rf_0_13, rf_0_14, rf_0_15, rf_0_16, rf_0_17, rf_1_1, rf_1_2, rf_10_1, rf_10_2, rf_18_0, rf_21_0, rf_23_0, rf_25_0, rf_79_0, rf_81_0, rf_83_0, rf_28_0, rf_28_1, rf_31_0, rf_33_0, rf_35_0, rf_37_0, rf_39_0, rf_41_0, rf_43_0, rf_43_1, rf_46_0, rf_48_0, rf_50_0, rf_52_0, rf_54_0, rf_56_0, rf_58_0, rf_58_1, rf_61_0, rf_63_0, rf_65_0, rf_67_0, rf_69_0, rf_71_0, rf_85_0, rf_85_2, rf_85_4, rf_85_5, rf_85_6, rf_85_7, rf_85_8, rf_85_9, rf_85_10, rf_85_15, rf_85_19, rf_85_21, rf_85_22, rf_85_23, rf_85_26, rf_85_27, rf_85_28, rf_2, rf_11, rf_30, rf_45, rf_60, rf_27, sgr_31, sgr_46, sgr_61, slr_79, in_2, in_9, ln_9, in_11, in_16, ln_16, in_19, ln_19, in_22, ln_22, in_24, ln_24, in_26, ln_26, in_27, in_29, ln_29, in_30, in_44, ln_44, in_45, in_59, ln_59, in_60, in_73, ln_73, in_74, ln_74, in_75, ln_75, in_76, ln_76, in_77, ln_77, in_78, ln_78, in_80, ln_80, in_82, ln_82, in_84, ln_84, in_86, ln_86, in_87, ln_87, in_88, ln_88, in_89, ln_89, in_90, ln_90, in_91, ln_91, in_92, ln_92, in_93, ln_93, in_94, ln_94, in_95, ln_95, in_96, ln_96, in_97, ln_97, in_98, ln_98, in_99, ln_99, in_100, ln_100, in_101, ln_101, in_102, ln_102, sh_0, sh_1, sh_10, sh_17, sh_18, sh_20, sh_21, sh_23, sh_25, sh_28, sh_43, sh_58, sh_79, sh_81, sh_83, sh_85, sgk_31, sgi_31, sgk_46, sgi_46, sgk_61, sgi_61, slk_79, sli_79, ini_rw, ini_tx, li_0, li_1, li_2, li_3, li_4, li_5, li_6, li_7, li_8, li_9, li_10, li_11, li_12, li_13, li_14, li_15, li_16, li_31, li_32, li_36, li_40, li_48, li_53, li_55, li_56, li_57, li_58, li_60, li_63, li_64, li_80, li_97, li_98, li_99, li_100, li_103, li_104, li_108, li_115, li_116, li_118, li_200, li_256, li_1000, li_2256, not_true_eq_false, not_false_eq_true, Bool.false_eq_true, if_true, if_false, Nat.or_zero, Nat.zero_or, pk_rem, nI_m31, nI_sl, nI_bt, nI_or, nI_sub', nI_n9, nI_9n, nI_n1, bo_n0, bo_n1, bo_if, nI_if, nI_if0, nI_if1, if_10, if_11, t_bits, t_bc, t_has, nI_clamp, nI_add, pk_mul, pk_sub, nI_eq, nI_leI, nI_ltI, if_pos, if_neg, uI_at, uI_to, uI_ne, uF_at, uF_ne, V.mn, e0, Nat.sub_self]
      rw [e]; rfl
    · refine mv_up V hi (fg.wr (Or.inl rfl)) ⟨by simp; omega, ?_, fun k hk => absurd hk (by simp; omega)⟩ w
      rw [uI_at, e]; rfl
  · rw [List.concat_eq_append] at e
    have e0 : (E i).1.length = a.length + 1 := by rw [e]; simp
    have f1 : fg h (uI h 86 (2 + i) (nI a.length)) i := fg.wr (Or.inl rfl)
    have e5 := V.fc i a.length hi (by omega)
    have e6 : (E i).1.getD a.length 0 = f := by rw [e]; exact ld_app
    rw [e6] at e5
    refine ⟨uI h 86 (2 + i) (nI a.length), ?_, ?_, f1.fm (by omega)⟩
    · unfold fX9_factOf fX9_factOf_0
      simp (disch := first | assumption | omega | trivial | rfl) only [ck_1, br_s, b2_s, bi_s, lt_d, bo_0, bo_1, lt_d, uI_1, uI_R, uI_L, uF_1, uF_R, uF_L, uL_1, uL_I, uL_R, uR_1, uR_I, uR_L, inb_uI, inb_uF, inb_uL, inb_uR, len_uI, len_uF, sh_uI, sh_uF, sh_uL, sh_uR, rf_0_0, rf_0_1, rf_0_2, rf_0_3, rf_0_4, rf_0_5, rf_0_6, rf_0_7, rf_0_8, rf_0_9, rf_0_12, rf_0_13, rf_0_14, rf_0_15, rf_0_16, rf_0_17, rf_1_1, rf_1_2, rf_10_1, rf_10_2, rf_18_0, rf_21_0, rf_23_0, rf_25_0, rf_79_0, rf_81_0, rf_83_0, rf_28_0, rf_28_1, rf_31_0, rf_33_0, rf_35_0, rf_37_0, rf_39_0, rf_41_0, rf_43_0, rf_43_1, rf_46_0, rf_48_0, rf_50_0, rf_52_0, rf_54_0, rf_56_0, rf_58_0, rf_58_1, rf_61_0, rf_63_0, rf_65_0, rf_67_0, rf_69_0, rf_71_0, rf_85_0, rf_85_2, rf_85_4, rf_85_5, rf_85_6, rf_85_7, rf_85_8, rf_85_9, rf_85_10, rf_85_15, rf_85_19, rf_85_21, rf_85_22, rf_85_23, rf_85_26, rf_85_27, rf_85_28, rf_2, rf_11, rf_30, rf_45, rf_60, rf_27, sgr_31, sgr_46, sgr_61, slr_79, in_2, in_9, ln_9, in_11, in_16, ln_16, in_19, ln_19, in_22, ln_22, in_24, ln_24, in_26, ln_26, in_27, in_29, ln_29, in_30, in_44, ln_44, in_45, in_59, ln_59, in_60, in_73, ln_73, in_74, ln_74, in_75, ln_75, in_76, ln_76, in_77, ln_77, in_78, ln_78, in_80, ln_80, in_82, ln_82, in_84, ln_84, in_86, ln_86, in_87, ln_87, in_88, ln_88, in_89, ln_89, in_90, ln_90, in_91, ln_91, in_92, ln_92, in_93, ln_93, in_94, ln_94, in_95, ln_95, in_96, ln_96, in_97, ln_97, in_98, ln_98, in_99, ln_99, in_100, ln_100, in_101, ln_101, in_102, ln_102, sh_0, sh_1, sh_10, sh_17, sh_18, sh_20, sh_21, sh_23, sh_25, sh_28, sh_43, sh_58, sh_79, sh_81, sh_83, sh_85, sgk_31, sgi_31, sgk_46, sgi_46, sgk_61, sgi_61, slk_79, sli_79, ini_rw, ini_tx, li_0, li_1, li_2, li_3, li_4, li_5, li_6, li_7, li_8, li_9, li_10, li_11, li_12, li_13, li_14, li_15, li_16, li_31, li_32, li_36, li_40, li_48, li_53, li_55, li_56, li_57, li_58, li_60, li_63, li_64, li_80, li_97, li_98, li_99, li_100, li_103, li_104, li_108, li_115, li_116, li_118, li_200, li_256, li_1000, li_2256, not_true_eq_false, not_false_eq_true, Bool.false_eq_true, if_true, if_false, Nat.or_zero, Nat.zero_or, pk_rem, nI_m31, nI_sl, nI_bt, nI_or, nI_sub', nI_n9, nI_9n, nI_n1, bo_n0, bo_n1, bo_if, nI_if, nI_if0, nI_if1, if_10, if_11, t_bits, t_bc, t_has, nI_clamp, nI_add, pk_mul, pk_sub, nI_eq, nI_leI, nI_ltI, if_pos, if_neg, uI_at, uI_to, uI_ne, uF_at, uF_ne, V.mn, e0, Nat.add_sub_cancel, e5]
      rw [e]; unfold nw; simp
    · refine mv_up V hi f1 ⟨by simp; omega, ?_, fun k hk => ?_⟩ w
      · rw [uI_at, e]; simp
      · have hk2 : k < a.length := by rw [e] at hk; simpa using hk
        rw [uI_ne (by omega), V.fc i k hi (by omega), e]
        simp
        rw [List.getElem?_append_left hk2]
end
end
section
/-! PURE: give, fright, mix, eat agree -/
section
variable {h : gz_H} {T : gz_T} {E : gz_D}
theorem dc_enc : ∀ (a : Fin 4) (i : Fin 6) (j : Fin 16), ((nI a.1 <<< (nI 8 &&& nI 31)) ||| (nI i.1 <<< (nI 4 &&& nI 31))) ||| nI j.1 = nI (dcode (a.1, i.1, j.1)) := by decide +kernel
theorem dc_d1 : ∀ (a : Fin 4) (i : Fin 6) (j : Fin 16), nI (dcode (a.1, i.1, j.1)) >>> (nI 8 &&& nI 31) = nI a.1 ∧ (nI (dcode (a.1, i.1, j.1)) >>> (nI 4 &&& nI 31)) &&& nI 15 = nI i.1 ∧ nI (dcode (a.1, i.1, j.1)) &&& nI 15 = nI j.1 := by decide +kernel
theorem vd_b {d : gz_De} (w : wsT T) (v : vd T d) : d.1 < 4 ∧ d.2.1 < 6 ∧ d.2.2 < 16 := by
  obtain ⟨a, i, j⟩ := d
  obtain ⟨v1, v2, v3, v4, v5, v6⟩ := v
  have h1 := w.1
  have h2 := w.2.1
  dsimp only at *
  refine ⟨by omega, by omega, ?_⟩
  match a, v1 with
  | 0, _ => have := v3 rfl; omega
  | 1, _ => have := v4 rfl; omega
  | 2, _ => have := v5 rfl; omega
  | 3, _ => have := v6 rfl; omega
theorem dc_n {d : gz_De} (w : wsT T) (v : vd T d) : ((nI d.1 <<< ((8 : Int32) &&& 31)) ||| (nI d.2.1 <<< ((4 : Int32) &&& 31))) ||| nI d.2.2 = nI (dcode d) := by
  have b := vd_b w v
  exact dc_enc ⟨d.1, b.1⟩ ⟨d.2.1, b.2.1⟩ ⟨d.2.2, b.2.2⟩
theorem dc_x {d : gz_De} (w : wsT T) (v : vd T d) : nI (dcode d) >>> ((8 : Int32) &&& 31) = nI d.1 ∧ (nI (dcode d) >>> ((4 : Int32) &&& 31)) &&& 15 = nI d.2.1 ∧ nI (dcode d) &&& 15 = nI d.2.2 := by
  have b := vd_b w v
  exact dc_d1 ⟨d.1, b.1⟩ ⟨d.2.1, b.2.1⟩ ⟨d.2.2, b.2.2⟩
/-- the log is longer by one -/
theorem x_note (H : gz_La h) {ds : List gz_De} (L : lgv h 25 ds) (hl : ds.length < 40) {d : gz_De} (w : wsT T) (v : vd T d) : ∃ h', fX3_note 25 (nI d.1) (nI d.2.1) (nI d.2.2) h = some ((), h') ∧ lgv h' 25 (ds ++ [d]) ∧ h'.1 = h.1 ∧ h'.2.2 = h.2.2 ∧ ∀ a k, a ≠ 25 → a ≠ 26 → h'.2.1 a k = h.2.1 a k := by
  refine ⟨uI (uI h 25 1 (nI (ds.length + 1))) 26 ds.length (nI (dcode d)), ?_, ⟨by rw [uI_ne (by omega), uI_at]; simp, fun k hk => ?_⟩, rfl, rfl, fun a k h1 h2 => by rw [uI_ne (by omega), uI_ne (by omega)]⟩
  · unfold fX3_note fX3_note_0
    rw [ck_t (sh_25 H), L.1, if_pos (show nI ds.length < (40 : Int32) from nI_lt hl (by decide)), rf_25_0 H, br_s, lt_d, nI_1, inb_uI, ck_t (in_26 H hl), nI_clamp (by omega), lt_d, dc_n w v]
  · have hk2 : k < ds.length + 1 := by simpa using hk
    by_cases c : k = ds.length
    · subst c
      show (uI _ 26 _ _).2.1 26 _ = _
      rw [uI_at, List.getD_eq_getElem?_getD, List.getElem?_append_right (Nat.le_refl _)]
      simp
    · show (uI _ 26 _ _).2.1 26 _ = _
      rw [uI_ne (by omega), uI_ne (by omega), List.getD_eq_getElem?_getD, List.getElem?_append_left (by omega), ← List.getD_eq_getElem?_getD]
      exact L.2 k (by omega)
/-! the past is kept -/
theorem m_keepPast (H : gz_La h) {n : Nat} (e0 : h.2.1 86 0 = nI n) (hn : n < 40) : ∃ h', fX9_keepPast 85 h = some ((), h') ∧ h'.1 = h.1 ∧ h'.2.2 = h.2.2 ∧ h'.2.1 86 0 = nI (n + 1) ∧ (∀ k, k < 55 → h'.2.1 86 (56 + 55 * n + k) = h.2.1 86 (1 + k)) ∧ ∀ a k, a ≠ 86 ∨ (k ≠ 0 ∧ (k < 56 + 55 * n ∨ 111 + 55 * n ≤ k)) → h'.2.1 a k = h.2.1 a k := by
  unfold fX9_keepPast fX9_keepPast_0
  have hfu : 55 < 0 + gz_fu := by show 55 < 0 + 100000; omega
  generalize gz_fu = fu at hfu ⊢
  refine lpr (fun m k (s : gz_H) => fX9_keepPast_2 m 85 (nI k) s) (fun k s => s.1 = h.1 ∧ s.2.2 = h.2.2 ∧ (∀ q, q < k → s.2.1 86 (56 + 55 * n + q) = h.2.1 86 (1 + q)) ∧ ∀ a q, a ≠ 86 ∨ (q < 56 + 55 * n ∨ 111 + 55 * n ≤ q) → s.2.1 a q = h.2.1 a q) 55 (fun r => ∃ h', r = some ((), h') ∧ h'.1 = h.1 ∧ h'.2.2 = h.2.2 ∧ h'.2.1 86 0 = nI (n + 1) ∧ (∀ k, k < 55 → h'.2.1 86 (56 + 55 * n + k) = h.2.1 86 (1 + k)) ∧ ∀ a k, a ≠ 86 ∨ (k ≠ 0 ∧ (k < 56 + 55 * n ∨ 111 + 55 * n ≤ k)) → h'.2.1 a k = h.2.1 a k) ?_ ?_ fu 0 h (by omega) hfu ⟨rfl, rfl, fun q hq => absurd hq (by omega), fun _ _ _ => rfl⟩
  · intro m s ⟨s1, s2, s3, s4⟩
    have H1 : gz_La s := H.of s1 (congrArg Prod.snd s2)
    have e1 : s.2.1 86 0 = nI n := by rw [s4 86 0 (by omega)]; exact e0
    refine ⟨uI s 86 0 (nI (n + 1)), ?_, s1, s2, uI_at, fun k hk => by rw [uI_ne (by omega)]; exact s3 k hk, fun a k q => by rw [uI_ne (by omega)]; exact s4 a k (by omega)⟩
    rw [fX9_keepPast_2]
    simp (disch := first | assumption | omega | trivial | rfl) only [ck_1, br_s, b2_s, bi_s, lt_d, bo_0, bo_1, lt_d, uI_1, uI_R, uI_L, uF_1, uF_R, uF_L, uL_1, uL_I, uL_R, uR_1, uR_I, uR_L, inb_uI, inb_uF, inb_uL, inb_uR, len_uI, len_uF, sh_uI, sh_uF, sh_uL, sh_uR, rf_0_0, rf_0_1, rf_0_2, rf_0_3, rf_0_4, rf_0_5, rf_0_6, rf_0_7, rf_0_8, rf_0_9, rf_0_12, rf_0_13, rf_0_14, rf_0_15, rf_0_16, rf_0_17, rf_1_1, rf_1_2, rf_10_1, rf_10_2, rf_18_0, rf_21_0, rf_23_0, rf_25_0, rf_79_0, rf_81_0, rf_83_0, rf_28_0, rf_28_1, rf_31_0, rf_33_0, rf_35_0, rf_37_0, rf_39_0, rf_41_0, rf_43_0, rf_43_1, rf_46_0, rf_48_0, rf_50_0, rf_52_0, rf_54_0, rf_56_0, rf_58_0, rf_58_1, rf_61_0, rf_63_0, rf_65_0, rf_67_0, rf_69_0, rf_71_0, rf_85_0, rf_85_2, rf_85_4, rf_85_5, rf_85_6, rf_85_7, rf_85_8, rf_85_9, rf_85_10, rf_85_15, rf_85_19, rf_85_21, rf_85_22, rf_85_23, rf_85_26, rf_85_27, rf_85_28, rf_2, rf_11, rf_30, rf_45, rf_60, rf_27, sgr_31, sgr_46, sgr_61, slr_79, in_2, in_9, ln_9, in_11, in_16, ln_16, in_19, ln_19, in_22, ln_22, in_24, ln_24, in_26, ln_26, in_27, in_29, ln_29, in_30, in_44, ln_44, in_45, in_59, ln_59, in_60, in_73, ln_73, in_74, ln_74, in_75, ln_75, in_76, ln_76, in_77, ln_77, in_78, ln_78, in_80, ln_80, in_82, ln_82, in_84, ln_84, in_86, ln_86, in_87, ln_87, in_88, ln_88, in_89, ln_89, in_90, ln_90, in_91, ln_91, in_92, ln_92, in_93, ln_93, in_94, ln_94, in_95, ln_95, in_96, ln_96, in_97, ln_97, in_98, ln_98, in_99, ln_99, in_100, ln_100, in_101, ln_101, in_102, ln_102, sh_0, sh_1, sh_10, sh_17, sh_18, sh_20, sh_21, sh_23, sh_25, sh_28, sh_43, sh_58, sh_79, sh_81, sh_83, sh_85, sgk_31, sgi_31, sgk_46, sgi_46, sgk_61, sgi_61, slk_79, sli_79, ini_rw, ini_tx, li_0, li_1, li_2, li_3, li_4, li_5, li_6, li_7, li_8, li_9, li_10, li_11, li_12, li_13, li_14, li_15, li_16, li_31, li_32, li_36, li_40, li_48, li_53, li_55, li_56, li_57, li_58, li_60, li_63, li_64, li_80, li_97, li_98, li_99, li_100, li_103, li_104, li_108, li_115, li_116, li_118, li_200, li_256, li_1000, li_2256, not_true_eq_false, not_false_eq_true, Bool.false_eq_true, if_true, if_false, Nat.or_zero, Nat.zero_or, pk_rem, nI_m31, nI_sl, nI_bt, nI_or, nI_sub', nI_n9, nI_9n, nI_n1, bo_n0, bo_n1, bo_if, nI_if, nI_if0, nI_if1, if_10, if_11, t_bits, t_bc, t_has, nI_clamp, nI_add, pk_mul, pk_sub, nI_eq, nI_leI, nI_ltI, if_pos, if_neg, uI_at, uI_to, uI_ne, uF_at, uF_ne, e1]
  · intro m k s hk ⟨s1, s2, s3, s4⟩
    have H1 : gz_La s := H.of s1 (congrArg Prod.snd s2)
    have e1 : s.2.1 86 0 = nI n := by rw [s4 86 0 (by omega)]; exact e0
    have e2 : s.2.1 86 (1 + k) = h.2.1 86 (1 + k) := s4 86 (1 + k) (by omega)
    refine ⟨uI s 86 (56 + 55 * n + k) (h.2.1 86 (1 + k)), ⟨s1, s2, fun q hq => ?_, fun a q z => by rw [uI_ne (by omega)]; exact s4 a q z⟩, ?_⟩
    · by_cases c : q = k
      · rw [c, uI_at]
      · rw [uI_ne (by omega)]; exact s3 q (by omega)
    · rw [fX9_keepPast_2]
      simp (disch := first | assumption | omega | trivial | rfl) only [ck_1, br_s, b2_s, bi_s, lt_d, bo_0, bo_1, lt_d, uI_1, uI_R, uI_L, uF_1, uF_R, uF_L, uL_1, uL_I, uL_R, uR_1, uR_I, uR_L, inb_uI, inb_uF, inb_uL, inb_uR, len_uI, len_uF, sh_uI, sh_uF, sh_uL, sh_uR, rf_0_0, rf_0_1, rf_0_2, rf_0_3, rf_0_4, rf_0_5, rf_0_6, rf_0_7, rf_0_8, rf_0_9, rf_0_12, rf_0_13, rf_0_14, rf_0_15, rf_0_16, rf_0_17, rf_1_1, rf_1_2, rf_10_1, rf_10_2, rf_18_0, rf_21_0, rf_23_0, rf_25_0, rf_79_0, rf_81_0, rf_83_0, rf_28_0, rf_28_1, rf_31_0, rf_33_0, rf_35_0, rf_37_0, rf_39_0, rf_41_0, rf_43_0, rf_43_1, rf_46_0, rf_48_0, rf_50_0, rf_52_0, rf_54_0, rf_56_0, rf_58_0, rf_58_1, rf_61_0, rf_63_0, rf_65_0, rf_67_0, rf_69_0, rf_71_0, rf_85_0, rf_85_2, rf_85_4, rf_85_5, rf_85_6, rf_85_7, rf_85_8, rf_85_9, rf_85_10, rf_85_15, rf_85_19, rf_85_21, rf_85_22, rf_85_23, rf_85_26, rf_85_27, rf_85_28, rf_2, rf_11, rf_30, rf_45, rf_60, rf_27, sgr_31, sgr_46, sgr_61, slr_79, in_2, in_9, ln_9, in_11, in_16, ln_16, in_19, ln_19, in_22, ln_22, in_24, ln_24, in_26, ln_26, in_27, in_29, ln_29, in_30, in_44, ln_44, in_45, in_59, ln_59, in_60, in_73, ln_73, in_74, ln_74, in_75, ln_75, in_76, ln_76, in_77, ln_77, in_78, ln_78, in_80, ln_80, in_82, ln_82, in_84, ln_84, in_86, ln_86, in_87, ln_87, in_88, ln_88, in_89, ln_89, in_90, ln_90, in_91, ln_91, in_92, ln_92, in_93, ln_93, in_94, ln_94, in_95, ln_95, in_96, ln_96, in_97, ln_97, in_98, ln_98, in_99, ln_99, in_100, ln_100, in_101, ln_101, in_102, ln_102, sh_0, sh_1, sh_10, sh_17, sh_18, sh_20, sh_21, sh_23, sh_25, sh_28, sh_43, sh_58, sh_79, sh_81, sh_83, sh_85, sgk_31, sgi_31, sgk_46, sgi_46, sgk_61, sgi_61, slk_79, sli_79, ini_rw, ini_tx, li_0, li_1, li_2, li_3, li_4, li_5, li_6, li_7, li_8, li_9, li_10, li_11, li_12, li_13, li_14, li_15, li_16, li_31, li_32, li_36, li_40, li_48, li_53, li_55, li_56, li_57, li_58, li_60, li_63, li_64, li_80, li_97, li_98, li_99, li_100, li_103, li_104, li_108, li_115, li_116, li_118, li_200, li_256, li_1000, li_2256, not_true_eq_false, not_false_eq_true, Bool.false_eq_true, if_true, if_false, Nat.or_zero, Nat.zero_or, pk_rem, nI_m31, nI_sl, nI_bt, nI_or, nI_sub', nI_n9, nI_9n, nI_n1, bo_n0, bo_n1, bo_if, nI_if, nI_if0, nI_if1, if_10, if_11, t_bits, t_bc, t_has, nI_clamp, nI_add, pk_mul, pk_sub, nI_eq, nI_leI, nI_ltI, if_pos, if_neg, uI_at, uI_to, uI_ne, uF_at, uF_ne, e1, e2]
/-- a flock of the reference, moved -/
theorem mv_mov {h' : gz_H} {B B' n : Nat} (hn : n ≤ 6) (dl : ∀ i, i < n → (E i).1.length ≤ 8) (x : mv h B n E) (e : ∀ k, k < 55 → h'.2.1 86 (B' + 1 + k) = h.2.1 86 (B + 1 + k)) : mv h' B' n E := by
  obtain ⟨x1, x2⟩ := x
  refine ⟨?_, fun i hi => ⟨?_, fun k hk => ?_⟩⟩
  · have := e 0 (by omega)
    rw [Nat.add_zero, Nat.add_zero] at this
    rw [this]; exact x1
  · have := e (1 + i) (by omega)
    rw [show B' + 1 + (1 + i) = B' + 2 + i by omega, show B + 1 + (1 + i) = B + 2 + i by omega] at this
    rw [this]; exact (x2 i hi).1
  · have dl := dl i hi
    have := e (7 + 8 * i + k) (by omega)
    rw [show B' + 1 + (7 + 8 * i + k) = B' + 8 + 8 * i + k by omega, show B + 1 + (7 + 8 * i + k) = B + 8 + 8 * i + k by omega] at this
    rw [this]; exact (x2 i hi).2 k hk
theorem mb_mov {h' : gz_H} {B B' : Nat} {D : gz_D} {ds : List gz_De} (w : wsT T) (g : gl T D ds) (x : mb h B T D ds) (e : ∀ k, k < 2256 → h'.2.1 86 (B' + k) = h.2.1 86 (B + k)) : mb h' B' T D ds := by
  obtain ⟨x1, x2, x3⟩ := x
  have hl := g.1
  have wl : ∀ n, n ≤ ds.length → ∀ i, i < T.2.1 → (rn T D (ds.take n) i).1.length ≤ 8 := fun n hn i hi => Nat.le_trans (g.2.2.1 n hn i hi).1 (w.bi i hi).2.2.1
  refine ⟨by have := e 0 (by omega); rw [Nat.add_zero, Nat.add_zero] at this; rw [this]; exact x1, ?_, fun n hn => ?_⟩
  · have w0 := wl ds.length (Nat.le_refl _)
    rw [List.take_length] at w0
    exact mv_mov w.2.1 w0 x2 (fun k hk => by rw [Nat.add_assoc, Nat.add_assoc]; exact e (1 + k) (by omega))
  · exact mv_mov w.2.1 (wl n (by omega)) (x3 n hn) (fun k hk => by
      have := e (55 + 55 * n + 1 + k) (by omega)
      rw [show B' + (55 + 55 * n + 1 + k) = B' + 55 + 55 * n + 1 + k by omega, show B + (55 + 55 * n + 1 + k) = B + 55 + 55 * n + 1 + k by omega] at this
      exact this)
/-- after keepPast and a deed -/
theorem mb_add {D : gz_D} {ds : List gz_De} {d : gz_De} {h1 h2 : gz_H} (w : wsT T) (g : gl T D (ds ++ [d])) (x : mb h 0 T D ds) (e0 : h1.2.1 86 0 = nI (ds.length + 1)) (e1 : ∀ k, k < 55 → h1.2.1 86 (56 + 55 * ds.length + k) = h.2.1 86 (1 + k)) (e2 : ∀ k, k ≠ 0 ∧ (k < 56 + 55 * ds.length ∨ 111 + 55 * ds.length ≤ k) → h1.2.1 86 k = h.2.1 86 k) (o : ∀ k, (56 ≤ k ∨ k = 0) → h2.2.1 86 k = h1.2.1 86 k) (m : mv h2 0 T.2.1 (pf T (rn T D ds) d)) : mb h2 0 T D (ds ++ [d]) := by
  obtain ⟨x1, x2, x3⟩ := x
  have hl : ds.length < 40 := by have := g.1; simp at this; omega
  have wl : ∀ n, n ≤ ds.length → ∀ i, i < T.2.1 → (rn T D (ds.take n) i).1.length ≤ 8 := fun n hn i hi => by
    have := g.2.2.1 n (by simp; omega) i hi
    rw [List.take_append_of_le_length hn] at this
    exact Nat.le_trans this.1 (w.bi i hi).2.2.1
  refine ⟨by rw [o 0 (by omega), e0]; simp, by rw [rn_add]; exact m, fun n hn => ?_⟩
  have hn2 : n < ds.length + 1 := by simpa using hn
  rw [List.take_append_of_le_length (by omega)]
  by_cases c : n = ds.length
  · subst c
    rw [List.take_length]
    have w0 := wl ds.length (Nat.le_refl _)
    rw [List.take_length] at w0
    exact mv_mov w.2.1 w0 x2 (fun k hk => by
      rw [o _ (by omega), show 0 + 55 + 55 * ds.length + 1 + k = 56 + 55 * ds.length + k by omega, show 0 + 1 + k = 1 + k by omega]
      exact e1 k hk)
  · exact mv_mov w.2.1 (wl n (by omega)) (x3 n (by omega)) (fun k hk => by
      rw [o _ (by omega)]
      exact e2 _ (by omega))
end
/-- the class changes what is its own: geese of now, its log -/
def fA (h h' : gz_H) : Prop := h'.1 = h.1 ∧ h'.2.2 = h.2.2 ∧ ∀ a k, ¬ (25 ≤ a ∧ a ≤ 42) → h'.2.1 a k = h.2.1 a k
/-- the reference changes its row (and scratch) -/
def fB (h h' : gz_H) : Prop := h'.1 = h.1 ∧ h'.2.2 = h.2.2 ∧ (∀ a k, a ≠ 86 → ¬ scr a k → h'.2.1 a k = h.2.1 a k) ∧ ∀ k, 2256 ≤ k → h'.2.1 86 k = h.2.1 86 k
theorem mb_far {h h' : gz_H} {B : Nat} {T : gz_T} {D : gz_D} {ds : List gz_De} (H : mb h B T D ds) (e : ∀ k, B ≤ k → h'.2.1 86 k = h.2.1 86 k) : mb h' B T D ds := by
  obtain ⟨x1, x2, x3⟩ := H
  refine ⟨by rw [e B (by omega)]; exact x1, ⟨by rw [e _ (by omega)]; exact x2.1, fun i hi => ⟨by rw [e _ (by omega)]; exact (x2.2 i hi).1, fun k hk => by rw [e _ (by omega)]; exact (x2.2 i hi).2 k hk⟩⟩, fun n hn => ?_⟩
  have y := x3 n hn
  exact ⟨by rw [e _ (by omega)]; exact y.1, fun i hi => ⟨by rw [e _ (by omega)]; exact (y.2 i hi).1, fun k hk => by rw [e _ (by omega)]; exact (y.2 i hi).2 k hk⟩⟩
theorem asm {h h1 h2 : gz_H} {T : gz_T} {D : gz_D} {ds ds' : List gz_De} {ks : Nat → Option (List gz_De)} {sa : Nat} (I : gz_In h) (F : gz_Fv h T D ds ks sa) (a : fA h h1) (b : fB h1 h2) (g : gl T D ds') (x : xv h1 28 T (rn T D ds')) (l : lgv h1 25 ds') (m : mb h2 0 T D ds') : gz_Iv h2 := by
  obtain ⟨H, Fx, Rw, Tx, Sc⟩ := I
  obtain ⟨⟨w, wD, al, gl0, gk⟩, ⟨s1, s2, s3⟩, ⟨x1, x2, x3, x4⟩, ⟨m1, m2, m3⟩⟩ := F
  have e1 : h2.1 = h.1 := b.1.trans a.1
  have e2 : h2.2.2 = h.2.2 := b.2.1.trans a.2.1
  have e3 : h2.2.2.2 = h.2.2.2 := congrArg Prod.snd e2
  have oA : ∀ x k, (x < 25 ∨ (42 < x ∧ x < 73) ∨ (78 < x ∧ x < 85) ∨ (x = 85 ∧ k ≠ 25) ∨ (86 < x ∧ x < 100)) → ¬ (21 ≤ x ∧ x ≤ 24) → h2.2.1 x k = h.2.1 x k := fun x k q q2 => by
    rw [b.2.2.1 x k (by omega) (by unfold scr; omega), a.2.2 x k (by omega)]
  have oB : ∀ x k, 25 ≤ x → x ≤ 42 → h2.2.1 x k = h1.2.1 x k := fun x k q1 q2 => b.2.2.1 x k (by omega) (by unfold scr; omega)
  have o86 : ∀ k, 2256 ≤ k → h2.2.1 86 k = h.2.1 86 k := fun k hk => by rw [b.2.2.2 k hk, a.2.2 86 k (by omega)]
  refine ⟨⟨H.of e1 e3, Fx.cg (fun a k q => oA a k (by omega) (by omega)), Rw.cg (fun a k q => oA a k (by omega) (by omega)), Tx.cg (fun a k q => oA a k (by omega) (by omega)), Sc.cg (fun a k q => oA a k (by omega) (by omega)) (congrArg Prod.fst e2)⟩, T, D, ds', ks, sa, ⟨w, wD, al, g, gk⟩, ⟨s1, by rw [e3]; exact s2, by rw [e3]; exact s3⟩, ⟨x1.cg w.2.1 e1 e3 (fun a k q1 q2 => oA a k (by omega) (by omega)), x.cg w.2.1 b.1 (congrArg Prod.snd b.2.1) (fun a k q1 q2 => oB a k (by omega) (by omega)), l.cg (fun a k q1 q2 => oB a k (by omega) (by omega)), fun k hk => ?_⟩, ⟨⟨by rw [oA 85 1 (by omega) (by omega)]; exact m1.1, by rw [oA 85 3 (by omega) (by omega)]; exact m1.2.1, fun k hk => by rw [oA 87 k (by omega) (by omega)]; exact m1.2.2.1 k hk, fun i hi => by rw [oA 88 i (by omega) (by omega), oA 89 i (by omega) (by omega), oA 90 i (by omega) (by omega)]; exact m1.2.2.2 i hi⟩, m, fun k hk => ?_⟩⟩
  · have := x4 k hk
    unfold xk at this ⊢
    cases hks : ks k with
    | none =>
      rw [hks] at this
      show h2.2.1 (79 + 2 * k) 1 = -1
      rw [oA _ _ (by omega) (by omega)]
      exact this
    | some es =>
      rw [hks] at this
      exact lgv.cg this (fun a j q1 q2 => oA a j (by omega) (by omega))
  · have := m3 k hk
    unfold mk at this ⊢
    cases hks : ks k with
    | none =>
      rw [hks] at this
      show h2.2.1 86 _ = -1
      rw [o86 _ (by omega)]
      exact this
    | some es =>
      rw [hks] at this
      exact mb_far this (fun j hj => o86 j (by omega))
section
variable {h : gz_H} {T : gz_T} {E : gz_D}
/-- a deed of the class -/
theorem x_doDeed {D : gz_D} {ds : List gz_De} (V : XV h T (rn T D ds)) (L : lgv h 25 ds) (hl : ds.length < 40) {d : gz_De} (v : vd T d) (l : lv (rn T D ds) d) : ∃ h1, fX8_doDeed 0 (nI d.1) (nI d.2.1) (nI d.2.2) h = some (pfA T (rn T D ds) d, h1) ∧ fA h h1 ∧ XV h1 T (rn T D (ds ++ [d])) ∧ lgv h1 25 (ds ++ [d]) := by
  have H := V.H
  have b := V.b
  have hi : d.2.1 < T.2.1 := v.2.1
  obtain ⟨h1, e1, l1, f1, f2, f3⟩ := x_note H L hl V.2.1 v
  have V1 : XV h1 T (rn T D ds) := ⟨H.of f1 (congrArg Prod.snd f2), V.2.1, V.2.2.1, V.2.2.2.cg V.2.1.2.1 f1 (congrArg Prod.snd f2) (fun a k q1 q2 => f3 a k (by omega) (by omega))⟩
  have H1 := V1.H
  obtain ⟨h2, e2, V2, f4⟩ := x_perform V1 v l
  have eg := V.gn d.2.1 hi
  rw [l.1] at eg
  refine ⟨h2, ?_, ⟨f4.1.trans f1, f4.2.1.trans f2, fun a k q => by rw [f4.2.2 a k (by omega), f3 a k (by omega) (by omega)]⟩, by rw [rn_add]; exact V2, l1.cg (fun a k q1 q2 => f4.2.2 a k (by omega))⟩
  unfold fX8_doDeed fX8_doDeed_0
  rw [ck_t (sh_0 H), rf_0_9 H, br_s, ck_t (sh_28 H), rf_28_1 H, br_s, ck_t (in_30 H (by omega)), nI_clamp (by omega), rf_30 H (by omega), br_s, ck_t (sgk_31 H (by omega)), eg, if_pos (by decide), rf_0_7 H, br_s, ck_t (sh_25 H), L.1, if_pos (show nI ds.length < (40 : Int32) from nI_lt hl (by decide)), e1, b2_s, ck_t (sh_0 H1), rf_0_9 H1, br_s, ck_t (sh_28 H1), e2, b2_s]
theorem x_doGone (V : XV h T E) {i : Nat} (hi : i < T.2.1) (g : (E i).2 = true) (x y : Int32) : fX8_doDeed 0 x (nI i) y h = some (-4, h) := by
  have H := V.H
  have b := V.b
  have eg := V.gn i hi
  rw [if_pos g] at eg
  unfold fX8_doDeed fX8_doDeed_0
  rw [ck_t (sh_0 H), rf_0_9 H, br_s, ck_t (sh_28 H), rf_28_1 H, br_s, ck_t (in_30 H (by omega)), nI_clamp (by omega), rf_30 H (by omega), br_s, ck_t (sgk_31 H (by omega)), eg, if_neg (by decide)]
theorem x_doFull {ds : List gz_De} (V : XV h T E) (L : lgv h 25 ds) (hl : ds.length = 40) {i : Nat} (hi : i < T.2.1) (g : (E i).2 = false) (x y : Int32) : fX8_doDeed 0 x (nI i) y h = some (-2, h) := by
  have H := V.H
  have b := V.b
  have eg := V.gn i hi
  rw [g] at eg
  unfold fX8_doDeed fX8_doDeed_0
  rw [ck_t (sh_0 H), rf_0_9 H, br_s, ck_t (sh_28 H), rf_28_1 H, br_s, ck_t (in_30 H (by omega)), nI_clamp (by omega), rf_30 H (by omega), br_s, ck_t (sgk_31 H (by omega)), eg, if_pos (by decide), rf_0_7 H, br_s, ck_t (sh_25 H), L.1, hl, if_neg (by decide)]
/-- may it be done? -/
theorem m_no {ds : List gz_De} (V : MV h T E) (e0 : h.2.1 86 0 = nI ds.length) (hl : ds.length ≤ 40) {i j : Nat} (hi : i < T.2.1) (hj : j < T.2.1) : fX9_no 85 (nI i) (nI j) h = some (if (E i).2 = true ∨ (E j).2 = true then -4 else if ds.length = 40 then -2 else 0, h) := by
  have H := V.H
  unfold fX9_no fX9_no_0 fX9_no_16
  rw [ck_t (sh_85 H), m_isGone V hi, b2_s]
  by_cases g1 : (E i).2 = true
  · rw [if_pos g1, if_neg (by decide), if_pos (Or.inl g1)]
  · rw [if_neg g1, if_pos (by decide), ck_t (sh_85 H), m_isGone V hj, b2_s]
    by_cases g2 : (E j).2 = true
    · rw [if_pos g2, if_neg (by decide), if_pos (Or.inr g2)]
    · rw [if_neg g2, if_pos (by decide), ck_t (sh_85 H), rf_85_0 H, br_s, show (0 : Int32) = nI 0 from rfl, ck_t (in_86 H (by decide)), nI_clamp (by decide), e0, if_neg (show ¬ ((E i).2 = true ∨ (E j).2 = true) from fun z => z.elim g1 g2)]
      by_cases c : ds.length = 40
      · rw [if_pos (show nI ds.length = (40 : Int32) from by rw [c]; rfl), if_pos c]
      · rw [if_neg (show ¬ nI ds.length = (40 : Int32) from fun z => c ((nI_eq (by omega) (by decide)).mp z)), if_neg c]
end
end
section
section
variable {h : gz_H} {T : gz_T} {E : gz_D}
def fM (h h' : gz_H) : Prop := h'.1 = h.1 ∧ h'.2.2 = h.2.2 ∧ (∀ a k, a ≠ 86 → ¬ scr a k → h'.2.1 a k = h.2.1 a k) ∧ ∀ k, (56 ≤ k ∨ k = 0) → h'.2.1 86 k = h.2.1 86 k
theorem fM.rf : fM h h := ⟨rfl, rfl, fun _ _ _ _ => rfl, fun _ _ => rfl⟩
theorem fM.tr {h h1 h2 : gz_H} (a : fM h h1) (b : fM h1 h2) : fM h h2 := ⟨b.1.trans a.1, b.2.1.trans a.2.1, fun x k e f => (b.2.2.1 x k e f).trans (a.2.2.1 x k e f), fun k e => (b.2.2.2 k e).trans (a.2.2.2 k e)⟩
theorem fm.fM {h h' : gz_H} (f : fm h h') : fM h h' := ⟨f.1, f.2.1, fun a k e _ => f.2.2 a k (by omega), fun k e => f.2.2 86 k (by omega)⟩
theorem sc.fM {h h' : gz_H} (f : sc h h') : fM h h' := ⟨f.1, f.2.1, fun a k _ e => f.2.2 a k e, fun k e => f.2.2 86 k (by unfold scr; omega)⟩
theorem mv_fA {h1 : gz_H} (V : MV h T E) (f : fA h h1) : MV h1 T E := by
  obtain ⟨H, w, d, ⟨b1, b2, b3, b4⟩, x⟩ := V
  have e := f.2.2
  exact ⟨H.of f.1 (congrArg Prod.snd f.2.1), w, d, ⟨by rw [e 85 1 (by omega)]; exact b1, by rw [e 85 3 (by omega)]; exact b2, fun k hk => by rw [e 87 k (by omega)]; exact b3 k hk, fun i hi => by rw [e 88 i (by omega), e 89 i (by omega), e 90 i (by omega)]; exact b4 i hi⟩, x.cg (fun k => e 86 k (by omega))⟩
theorem m_past {D : gz_D} {ds : List gz_De} (V : MV h T (rn T D ds)) (m : mb h 0 T D ds) (hl : ds.length < 40) : ∃ hk, fX9_keepPast 85 h = some ((), hk) ∧ MV hk T (rn T D ds) ∧ hk.2.1 86 0 = nI (ds.length + 1) ∧ ∀ h2 d, gl T D (ds ++ [d]) → fM hk h2 → MV h2 T (pf T (rn T D ds) d) → fB h h2 ∧ mb h2 0 T D (ds ++ [d]) := by
  obtain ⟨hk, e, f1, f2, f3, f4, f5⟩ := m_keepPast V.H m.1 hl
  obtain ⟨H, w, d, ⟨b1, b2, b3, b4⟩, x⟩ := V
  refine ⟨hk, e, ⟨H.of f1 (congrArg Prod.snd f2), w, d, ⟨by rw [f5 85 1 (by omega)]; exact b1, by rw [f5 85 3 (by omega)]; exact b2, fun k hk => by rw [f5 87 k (by omega)]; exact b3 k hk, fun i hi => by rw [f5 88 i (by omega), f5 89 i (by omega), f5 90 i (by omega)]; exact b4 i hi⟩, mv_mov w.2.1 (fun i hi => Nat.le_trans (d i hi).1 (w.bi i hi).2.2.1) x (fun k hk => f5 86 _ (by omega))⟩, f3, fun h2 d2 g fm2 V2 => ⟨⟨fm2.1.trans f1, fm2.2.1.trans f2, fun a k q1 q2 => by rw [fm2.2.2.1 a k q1 q2, f5 a k (by omega)], fun k hk => by rw [fm2.2.2.2 k (by omega), f5 86 k (by omega)]⟩, mb_add w g m f3 f4 (fun k q => f5 86 k (by omega)) fm2.2.2.2 V2.2.2.2.2⟩⟩
theorem deed_end {D : gz_D} {ds : List gz_De} {ks : Nat → Option (List gz_De)} {sa : Nat} (I : gz_Iv h) (F : gz_Fv h T D ds ks sa) {d : gz_De} (v : vd T d) (l : lv (rn T D ds) d) (hl : ds.length < 40) {X M : gz_H → Option (Int32 × gz_H)} (hx : ∀ y h1, fX8_doDeed 0 (nI d.1) (nI d.2.1) (nI d.2.2) h = some (y, h1) → X h = some (y, h1)) (hm : ∀ h1 hk, MV h1 T (rn T D ds) → h1.2.1 86 0 = nI ds.length → fX9_keepPast 85 h1 = some ((), hk) → MV hk T (rn T D ds) → ∃ h2, M h1 = some (pfA T (rn T D ds) d, h2) ∧ fM hk h2 ∧ MV h2 T (pf T (rn T D ds) d)) : gz_ag X M h gz_Iv := by
  have V := F.xv I.1.1
  have W := F.mv I.1.1
  obtain ⟨h1, e1, fa, V1, L1⟩ := x_doDeed V F.2.2.1.2.2.1 hl v l
  have W1 := mv_fA W fa
  have m1 : mb h1 0 T D ds := F.2.2.2.2.1.cg (fun k => fa.2.2 86 k (by omega))
  obtain ⟨hk, e2, W2, _, fin⟩ := m_past W1 m1 hl
  obtain ⟨h2, e3, f3, W3⟩ := hm h1 hk W1 m1.1 e2 W2
  have g := gl_add F.1.1 F.1.2.2.2.1 hl v l
  obtain ⟨fb, m2⟩ := fin h2 d g f3 W3
  exact ⟨_, h1, h2, hx _ _ e1, fa.1.trans I.1.1.1, e3, asm I.1 F fa fb g V1.2.2.2 L1 m2⟩
/-- what both say where nothing is done -/
theorem ag_no (I : gz_Iv h) {y : Int32} {X M : gz_H → Option (Int32 × gz_H)} (hx : X h = some (y, h)) (hm : M h = some (y, h)) : gz_ag X M h gz_Iv := ⟨y, h, h, hx, I.1.1.1, hm, I⟩
theorem vd0 {i f : Nat} (hi : i < T.2.1) (hf : f < T.1) : vd T (0, i, f) := ⟨Nat.zero_le 3, hi, fun _ => hf, fun (z : (0 : Nat) = 1) => absurd z (by decide), fun (z : (0 : Nat) = 2) => absurd z (by decide), fun (z : (0 : Nat) = 3) => absurd z (by decide)⟩
theorem vd1 {i : Nat} (hi : i < T.2.1) : vd T (1, i, 0) := ⟨(by decide : 1 ≤ 3), hi, fun (z : (1 : Nat) = 0) => absurd z (by decide), fun _ => rfl, fun (z : (1 : Nat) = 2) => absurd z (by decide), fun (z : (1 : Nat) = 3) => absurd z (by decide)⟩
theorem vd2 {i j : Nat} (hi : i < T.2.1) (hj : j < T.2.1) (hij : j ≠ i) : vd T (2, i, j) := ⟨(by decide : 2 ≤ 3), hi, fun (z : (2 : Nat) = 0) => absurd z (by decide), fun (z : (2 : Nat) = 1) => absurd z (by decide), fun _ => ⟨hj, hij⟩, fun (z : (2 : Nat) = 3) => absurd z (by decide)⟩
theorem vd3 {i j : Nat} (hi : i < T.2.1) (hj : j = 15 ∨ (j < T.2.1 ∧ j ≠ i)) : vd T (3, i, j) := ⟨(by decide : 3 ≤ 3), hi, fun (z : (3 : Nat) = 0) => absurd z (by decide), fun (z : (3 : Nat) = 1) => absurd z (by decide), fun (z : (3 : Nat) = 2) => absurd z (by decide), fun _ => hj⟩
theorem lv0 {i f : Nat} (g : (E i).2 = false) : lv E (0, i, f) := ⟨g, fun (z : (0 : Nat) = 2) => absurd z (by decide), fun (z : (0 : Nat) = 3) => absurd z (by decide)⟩
theorem lv1 {i f : Nat} (g : (E i).2 = false) : lv E (1, i, f) := ⟨g, fun (z : (1 : Nat) = 2) => absurd z (by decide), fun (z : (1 : Nat) = 3) => absurd z (by decide)⟩
theorem lv2 {i j : Nat} (g : (E i).2 = false) (g2 : (E j).2 = false) : lv E (2, i, j) := ⟨g, fun _ => g2, fun (z : (2 : Nat) = 3) => absurd z (by decide)⟩
theorem lv3 {i j : Nat} (g : (E i).2 = false) (g2 : j ≠ 15 → (E j).2 = false) : lv E (3, i, j) := ⟨g, fun (z : (3 : Nat) = 2) => absurd z (by decide), fun _ => g2⟩
theorem op_give (I : gz_Iv h) (x1 x2 : Int32) : gz_ag (fX8_give 0 x1 x2) (fX9_give 85 x1 x2) h gz_Iv := by
  obtain ⟨T, D, ds, ks, sa, F⟩ := I.2
  have V := F.xv I.1.1
  have W := F.mv I.1.1
  have H := V.H
  have b := V.b
  have hl := F.1.2.2.2.1.1
  have L := F.2.2.1.2.2.1
  have m0 := F.2.2.2.2.1.1
  rcases p_cases x1 T.2.1 (by omega) with hx | ⟨i, hi, rfl⟩
  · refine ag_no I (y := -1) ?_ ?_
    · unfold fX8_give fX8_give_0
      rw [ck_t (sh_0 H), rf_0_9 H, br_s, ck_t (sh_28 H), x_goose_out V hx, b2_s, if_pos (by decide)]
    · unfold fX9_give fX9_give_0
      rw [ck_t (sh_85 H), m_goose_out W hx, b2_s, if_pos (by decide)]
  · rcases p_cases x2 T.1 (by omega) with hx | ⟨f, hf, rfl⟩
    · refine ag_no I (y := -1) ?_ ?_
      · unfold fX8_give fX8_give_0
        rw [ck_t (sh_0 H), rf_0_9 H, br_s, ck_t (sh_28 H), x_goose_in V hi, b2_s, if_neg (by decide), ck_t (sh_0 H), rf_0_9 H, br_s, ck_t (sh_28 H), x_fact_out V hx, b2_s, if_pos (by decide)]
      · unfold fX9_give fX9_give_0
        rw [ck_t (sh_85 H), m_goose_in W hi, b2_s, if_neg (by decide), ck_t (sh_85 H), m_fact_out W hx, b2_s, if_pos (by decide)]
    · have X0 : ∀ y h1, fX8_doDeed 0 (0 : Int32) (nI i) (nI f) h = some (y, h1) → fX8_give 0 (nI i) (nI f) h = some (y, h1) := by
        intro y h1 e
        unfold fX8_give fX8_give_0
        rw [ck_t (sh_0 H), rf_0_9 H, br_s, ck_t (sh_28 H), x_goose_in V hi, b2_s, if_neg (by decide), ck_t (sh_0 H), rf_0_9 H, br_s, ck_t (sh_28 H), x_fact_in V hf, b2_s, if_neg (by decide), ck_t (sh_0 H), e, b2_s]
      have M0 : ∀ h1, MV h1 T (rn T D ds) → h1.2.1 86 0 = nI ds.length → fX9_give 85 (nI i) (nI f) h1 = if (if (rn T D ds i).2 = true ∨ (rn T D ds i).2 = true then (-4 : Int32) else if ds.length = 40 then -2 else 0) = 0 then gz_b2 (fX9_keepPast 85 h1) (fun _ h_13 => gz_ck (gz_sh h_13 85 9 29) (gz_b2 (fX9_doGive 85 (nI i) (nI f) h_13) fun y_17 h_16 => some (y_17, h_16))) else some (if (rn T D ds i).2 = true ∨ (rn T D ds i).2 = true then (-4 : Int32) else if ds.length = 40 then -2 else 0, h1) := by
        intro h1 W1 e0
        have H1 := W1.H
        unfold fX9_give fX9_give_0
        rw [ck_t (sh_85 H1), m_goose_in W1 hi, b2_s, if_neg (by decide), ck_t (sh_85 H1), m_fact_in W1 hf, b2_s, if_neg (by decide), ck_t (sh_85 H1), m_no W1 e0 hl hi hi, b2_s, ck_t (sh_85 H1)]
      by_cases g : (rn T D ds i).2 = true
      · refine ag_no I (y := -4) (X0 _ _ (x_doGone V hi g _ _)) ?_
        rw [M0 h W m0, if_pos (Or.inl g), if_neg (by decide)]
      · have g2 : (rn T D ds i).2 = false := by simpa using g
        have g3 : ¬ ((rn T D ds i).2 = true ∨ (rn T D ds i).2 = true) := fun z => z.elim g g
        by_cases c : ds.length = 40
        · refine ag_no I (y := -2) (X0 _ _ (x_doFull V L c hi g2 _ _)) ?_
          rw [M0 h W m0, if_neg g3, if_pos c, if_neg (by decide)]
        · refine deed_end I F (d := (0, i, f)) (vd0 hi hf) (lv0 g2) (by omega) X0 ?_
          intro h1 hk W1 e0 ek Wk
          obtain ⟨h2, e2, W2, f2⟩ := m_takeE Wk hi hf g2
          have Hk := Wk.H
          refine ⟨h2, ?_, f2.fM, W2⟩
          rw [M0 h1 W1 e0, if_neg g3, if_neg c, if_pos rfl, ek, b2_s, ck_t (sh_85 Hk), e2, b2_s]
          rfl
theorem op_fright (I : gz_Iv h) (x1 : Int32) : gz_ag (fX8_fright 0 x1) (fX9_fright 85 x1) h gz_Iv := by
  obtain ⟨T, D, ds, ks, sa, F⟩ := I.2
  have V := F.xv I.1.1
  have W := F.mv I.1.1
  have H := V.H
  have b := V.b
  have hl := F.1.2.2.2.1.1
  have L := F.2.2.1.2.2.1
  have m0 := F.2.2.2.2.1.1
  rcases p_cases x1 T.2.1 (by omega) with hx | ⟨i, hi, rfl⟩
  · refine ag_no I (y := -1) ?_ ?_
    · unfold fX8_fright fX8_fright_0
      rw [ck_t (sh_0 H), rf_0_9 H, br_s, ck_t (sh_28 H), x_goose_out V hx, b2_s, if_pos (by decide)]
    · unfold fX9_fright fX9_fright_0
      rw [ck_t (sh_85 H), m_goose_out W hx, b2_s, if_pos (by decide)]
  · have X0 : ∀ y h1, fX8_doDeed 0 (1 : Int32) (nI i) (0 : Int32) h = some (y, h1) → fX8_fright 0 (nI i) h = some (y, h1) := by
      intro y h1 e
      unfold fX8_fright fX8_fright_0
      rw [ck_t (sh_0 H), rf_0_9 H, br_s, ck_t (sh_28 H), x_goose_in V hi, b2_s, if_neg (by decide), ck_t (sh_0 H), e, b2_s]
    have M0 : ∀ h1, MV h1 T (rn T D ds) → h1.2.1 86 0 = nI ds.length → fX9_fright 85 (nI i) h1 = if (if (rn T D ds i).2 = true ∨ (rn T D ds i).2 = true then (-4 : Int32) else if ds.length = 40 then -2 else 0) = 0 then gz_b2 (fX9_keepPast 85 h1) (fun _ h_13 => gz_ck (gz_sh h_13 85 9 29) (gz_b2 (fX9_doFright 85 (nI i) h_13) fun y_17 h_16 => some (y_17, h_16))) else some (if (rn T D ds i).2 = true ∨ (rn T D ds i).2 = true then (-4 : Int32) else if ds.length = 40 then -2 else 0, h1) := by
      intro h1 W1 e0
      have H1 := W1.H
      unfold fX9_fright fX9_fright_0
      rw [ck_t (sh_85 H1), m_goose_in W1 hi, b2_s, if_neg (by decide), ck_t (sh_85 H1), m_no W1 e0 hl hi hi, b2_s, ck_t (sh_85 H1)]
    by_cases g : (rn T D ds i).2 = true
    · refine ag_no I (y := -4) (X0 _ _ (x_doGone V hi g _ _)) ?_
      rw [M0 h W m0, if_pos (Or.inl g), if_neg (by decide)]
    · have g2 : (rn T D ds i).2 = false := by simpa using g
      have g3 : ¬ ((rn T D ds i).2 = true ∨ (rn T D ds i).2 = true) := fun z => z.elim g g
      by_cases c : ds.length = 40
      · refine ag_no I (y := -2) (X0 _ _ (x_doFull V L c hi g2 _ _)) ?_
        rw [M0 h W m0, if_neg g3, if_pos c, if_neg (by decide)]
      · refine deed_end I F (d := (1, i, 0)) (vd1 hi) (lv1 g2) (by omega) X0 ?_
        intro h1 hk W1 e0 ek Wk
        obtain ⟨h2, e2, W2, f2⟩ := m_fright Wk hi g2
        have Hk := Wk.H
        refine ⟨h2, ?_, f2.fM, W2⟩
        rw [M0 h1 W1 e0, if_neg g3, if_neg c, if_pos rfl, ek, b2_s, ck_t (sh_85 Hk), e2, b2_s]
        rfl
/-! mixing -/
theorem m_mix93 (V : MV h T E) {i j g t w : Nat} (hi : i < T.2.1) (hj : j < T.2.1) (hw : (w = 0 ∧ g = j ∧ t = i) ∨ (w = 1 ∧ g = i ∧ t = j)) (al : (E t).2 = false) : ∃ h', fX9_mix_93 85 (nI i) (nI j) (nI w) 85 (nI g) h = some (nw (E g).1, h') ∧ MV h' T (mixD T E g t) ∧ fm h h' := by
  have H := V.H
  have b := V.b
  have hg : g < T.2.1 := by rcases hw with ⟨_, q, _⟩ | ⟨_, q, _⟩ <;> rw [q] <;> assumption
  have ht : t < T.2.1 := by rcases hw with ⟨_, _, q⟩ | ⟨_, _, q⟩ <;> rw [q] <;> assumption
  have et : fX9_toldOf 85 (nI g) (4 : Int32) h = some (nw (E g).1, h) := m_toldOf V hg (w := 4) (by decide)
  unfold fX9_mix_93 mixD
  rw [ck_t (sh_85 H), et, b2_s]
  cases e : (E g).1.getLast? with
  | none =>
    rw [nw_none e, if_pos rfl]
    exact ⟨h, rfl, V, fm.rf⟩
  | some f =>
    have hf := (V.2.2.1.gd hg).2.2 f (List.mem_of_getLast? e)
    obtain ⟨h', e1, V', f'⟩ := m_takeE V ht hf al
    refine ⟨h', ?_, V', f'⟩
    rw [nw_last e, if_neg (show ¬ nI f = (-9 : Int32) from fun z => (nI_n9 (k := f) (by omega)).mp z)]
    unfold fX9_mix_117
    rcases hw with ⟨q1, q2, q3⟩ | ⟨q1, q2, q3⟩
    · rw [q1, if_pos (by decide), ck_t (sh_85 H), ← q3, e1, b2_s]
    · rw [q1, if_neg (by decide), ck_t (sh_85 H), ← q3, e1, b2_s]
theorem op_mix (I : gz_Iv h) (x1 x2 : Int32) : gz_ag (fX8_mix 0 x1 x2) (fX9_mix 85 x1 x2) h gz_Iv := by
  obtain ⟨T, D, ds, ks, sa, F⟩ := I.2
  have V := F.xv I.1.1
  have W := F.mv I.1.1
  have H := V.H
  have b := V.b
  have hl := F.1.2.2.2.1.1
  have L := F.2.2.1.2.2.1
  have m0 := F.2.2.2.2.1.1
  rcases p_cases x1 T.2.1 (by omega) with hx | ⟨i, hi, rfl⟩
  · refine ag_no I (y := -1) ?_ ?_
    · unfold fX8_mix fX8_mix_0
      rw [ck_t (sh_0 H), rf_0_9 H, br_s, ck_t (sh_28 H), x_goose_out V hx, b2_s, if_pos (by decide)]
    · unfold fX9_mix fX9_mix_0
      rw [ck_t (sh_85 H), m_goose_out W hx, b2_s, if_pos (by decide)]
  · rcases p_cases x2 T.2.1 (by omega) with hx | ⟨j, hj, rfl⟩
    · refine ag_no I (y := -1) ?_ ?_
      · unfold fX8_mix fX8_mix_0
        rw [ck_t (sh_0 H), rf_0_9 H, br_s, ck_t (sh_28 H), x_goose_in V hi, b2_s, if_neg (by decide), ck_t (sh_0 H), rf_0_9 H, br_s, ck_t (sh_28 H), x_goose_out V hx, b2_s, if_pos (by decide)]
      · unfold fX9_mix fX9_mix_0
        rw [ck_t (sh_85 H), m_goose_in W hi, b2_s, if_neg (by decide), ck_t (sh_85 H), m_goose_out W hx, b2_s, if_pos (by decide)]
    · by_cases hij : i = j
      · subst hij
        refine ag_no I (y := -1) ?_ ?_
        · unfold fX8_mix fX8_mix_0
          rw [ck_t (sh_0 H), rf_0_9 H, br_s, ck_t (sh_28 H), x_goose_in V hi, b2_s, if_neg (by decide), ck_t (sh_0 H), rf_0_9 H, br_s, ck_t (sh_28 H), x_goose_in V hi, b2_s, if_neg (by decide), if_pos rfl]
        · unfold fX9_mix fX9_mix_0
          rw [ck_t (sh_85 H), m_goose_in W hi, b2_s, if_neg (by decide), ck_t (sh_85 H), m_goose_in W hi, b2_s, if_neg (by decide), if_pos rfl]
      · have nij : ¬ nI i = nI j := fun z => hij ((nI_eq (by omega) (by omega)).mp z)
        have X0 : ∀ r, (if h.2.1 (31 + 2 * j) 5 = 0 then gz_b2 (fX8_doDeed 0 (2 : Int32) (nI i) (nI j) h) (fun y_23 h_22 => some (y_23, h_22)) else some ((-4 : Int32), h)) = r → fX8_mix 0 (nI i) (nI j) h = r := by
          intro r e
          unfold fX8_mix fX8_mix_0
          rw [ck_t (sh_0 H), rf_0_9 H, br_s, ck_t (sh_28 H), x_goose_in V hi, b2_s, if_neg (by decide), ck_t (sh_0 H), rf_0_9 H, br_s, ck_t (sh_28 H), x_goose_in V hj, b2_s, if_neg (by decide), if_neg nij, ck_t (sh_0 H), rf_0_9 H, br_s, ck_t (sh_28 H), rf_28_1 H, br_s, ck_t (in_30 H (by omega)), nI_clamp (by omega), rf_30 H (by omega), br_s, ck_t (sgk_31 H (by omega))]
          exact e
        have eg := V.gn j hj
        have M0 : ∀ h1, MV h1 T (rn T D ds) → h1.2.1 86 0 = nI ds.length → ∀ r, (if (if (rn T D ds i).2 = true ∨ (rn T D ds j).2 = true then (-4 : Int32) else if ds.length = 40 then -2 else 0) = 0 then gz_b2 (fX9_keepPast 85 h1) (fun _ h_14 => gz_ck (gz_sh h_14 85 9 29) (gz_br (h_14.2.2.2 85 6) fun r_18 => gz_ck (gz_inb h_14 r_18 10 (nI i)) (gz_ck (gz_inb h_14 r_18 10 (nI j)) (if h_14.2.1 r_18 (nI j).toNatClampNeg < h_14.2.1 r_18 (nI i).toNatClampNeg then fX9_mix_75 85 (nI i) (nI j) h_14 else if h_14.2.1 r_18 (nI i).toNatClampNeg = h_14.2.1 r_18 (nI j).toNatClampNeg then if nI j ≤ nI i then fX9_mix_79 85 (nI i) (nI j) h_14 else fX9_mix_75 85 (nI i) (nI j) h_14 else fX9_mix_79 85 (nI i) (nI j) h_14)))) else some (if (rn T D ds i).2 = true ∨ (rn T D ds j).2 = true then (-4 : Int32) else if ds.length = 40 then -2 else 0, h1)) = r → fX9_mix 85 (nI i) (nI j) h1 = r := by
          intro h1 W1 e0 r e
          have H1 := W1.H
          unfold fX9_mix fX9_mix_0
          rw [ck_t (sh_85 H1), m_goose_in W1 hi, b2_s, if_neg (by decide), ck_t (sh_85 H1), m_goose_in W1 hj, b2_s, if_neg (by decide), if_neg nij, ck_t (sh_85 H1), m_no W1 e0 hl hi hj, b2_s, ck_t (sh_85 H1)]
          exact e
        by_cases gj : (rn T D ds j).2 = true
        · refine ag_no I (y := -4) (X0 _ ?_) (M0 h W m0 _ ?_)
          · rw [eg, if_pos gj, if_neg (by decide)]
          · rw [if_pos (Or.inr gj), if_neg (by decide)]
        · have gj2 : (rn T D ds j).2 = false := by simpa using gj
          rw [if_neg gj] at eg
          by_cases g : (rn T D ds i).2 = true
          · refine ag_no I (y := -4) (X0 _ ?_) (M0 h W m0 _ ?_)
            · rw [eg, if_pos (by decide), x_doGone V hi g, b2_s]
            · rw [if_pos (Or.inl g), if_neg (by decide)]
          · have g2 : (rn T D ds i).2 = false := by simpa using g
            have g3 : ¬ ((rn T D ds i).2 = true ∨ (rn T D ds j).2 = true) := fun z => z.elim g gj
            by_cases c : ds.length = 40
            · refine ag_no I (y := -2) (X0 _ ?_) (M0 h W m0 _ ?_)
              · rw [eg, if_pos (by decide), x_doFull V L c hi g2, b2_s]
              · rw [if_neg g3, if_pos c, if_neg (by decide)]
            · refine deed_end I F (d := (2, i, j)) (vd2 hi hj (fun z => hij z.symm)) (lv2 g2 gj2) (by omega) (fun y h1 e => X0 _ ?_) ?_
              · have e' : fX8_doDeed 0 (2 : Int32) (nI i) (nI j) h = some (y, h1) := e
                rw [eg, if_pos (by decide), e', b2_s]
              · intro h1 hk W1 e0 ek Wk
                have Hk := Wk.H
                have bi := V.bi i hi
                have bj := V.bi j hj
                obtain ⟨u1, k1, r1⟩ := m_mix93 Wk hi hj (g := i) (t := j) (w := 1) (Or.inr ⟨rfl, rfl, rfl⟩) gj2
                obtain ⟨u0, k0, r0⟩ := m_mix93 Wk hi hj (g := j) (t := i) (w := 0) (Or.inl ⟨rfl, rfl, rfl⟩) g2
                have k75 : fX9_mix_75 85 (nI i) (nI j) hk = some (nw (rn T D ds i).1, u1) := by
                  unfold fX9_mix_75 fX9_mix_80
                  rw [if_neg (by decide)]
                  exact k1
                have k79 : fX9_mix_79 85 (nI i) (nI j) hk = some (nw (rn T D ds j).1, u0) := by
                  unfold fX9_mix_79 fX9_mix_80
                  rw [if_pos (by decide)]
                  exact k0
                have pm : pfA T (rn T D ds) (2, i, j) = nw (rn T D ds (pf_mix T (rn T D ds) i j).1).1 := rfl
                have pd : pf T (rn T D ds) (2, i, j) = mixD T (rn T D ds) (pf_mix T (rn T D ds) i j).1 (pf_mix T (rn T D ds) i j).2 := rfl
                have goal : ∃ h2, (if nI (T.2.2.2.2.2 j) < nI (T.2.2.2.2.2 i) then some (nw (rn T D ds i).1, u1) else if nI (T.2.2.2.2.2 i) = nI (T.2.2.2.2.2 j) then if nI j ≤ nI i then some (nw (rn T D ds j).1, u0) else some (nw (rn T D ds i).1, u1) else some (nw (rn T D ds j).1, u0)) = some (nw (rn T D ds (pf_mix T (rn T D ds) i j).1).1, h2) ∧ fM hk h2 ∧ MV h2 T (mixD T (rn T D ds) (pf_mix T (rn T D ds) i j).1 (pf_mix T (rn T D ds) i j).2) := by
                  unfold pf_mix
                  by_cases q1 : T.2.2.2.2.2 j < T.2.2.2.2.2 i
                  · rw [if_pos (nI_lt q1 (by omega)), if_pos (Or.inl q1)]
                    exact ⟨u1, rfl, r1.2.fM, r1.1⟩
                  · rw [if_neg (nI_nlt (by omega) (by omega))]
                    by_cases q2 : T.2.2.2.2.2 i = T.2.2.2.2.2 j
                    · rw [if_pos (show nI (T.2.2.2.2.2 i) = nI (T.2.2.2.2.2 j) by rw [q2])]
                      by_cases q3 : i < j
                      · rw [if_neg (nI_ge q3 (by omega)), if_pos (Or.inr ⟨q2, q3⟩)]
                        exact ⟨u1, rfl, r1.2.fM, r1.1⟩
                      · rw [if_pos (nI_le (by omega) (by omega)), if_neg (show ¬ (T.2.2.2.2.2 j < T.2.2.2.2.2 i ∨ (T.2.2.2.2.2 i = T.2.2.2.2.2 j ∧ i < j)) from fun z => by omega)]
                        exact ⟨u0, rfl, r0.2.fM, r0.1⟩
                    · rw [if_neg (fun z => q2 ((nI_eq (by omega) (by omega)).mp z)), if_neg (show ¬ (T.2.2.2.2.2 j < T.2.2.2.2.2 i ∨ (T.2.2.2.2.2 i = T.2.2.2.2.2 j ∧ i < j)) from fun z => by omega)]
                      exact ⟨u0, rfl, r0.2.fM, r0.1⟩
                obtain ⟨h2, e2, f2, W2⟩ := goal
                refine ⟨h2, M0 h1 W1 e0 _ ?_, f2, by rw [pd]; exact W2⟩
                rw [if_neg g3, if_neg c, if_pos rfl, ek, b2_s, ck_t (sh_85 Hk), rf_85_6 Hk, br_s, ck_t (in_90 Hk (by omega)), ck_t (in_90 Hk (by omega)), nI_clamp (by omega), nI_clamp (by omega), Wk.rk i hi, Wk.rk j hj, k75, k79, pm]
                exact e2
end
end
section
/-! PURE: eat agrees -/
theorem pc_cnt {s n : Nat} (hn : n ≤ 8) (hs : s < 2 ^ n) : pc s = cnt (fun k => s.testBit k) n := by
  rw [← cnt_ext hn]
  unfold pc cnt
  refine fs_cg fun k _ => ?_
  by_cases c : k < n
  · simp [c]
  · have : s.testBit k = false := Nat.testBit_lt_two_pow (Nat.lt_of_lt_of_le hs (Nat.pow_le_pow_right (n := 2) (by decide) (by omega)))
    simp [this]
theorem lost_pc {s n : Nat} (hn : n ≤ 8) (hs : s < 2 ^ n) : pc (sd (2 ^ n - 1) s) = n - pc s ∧ pc s ≤ n := by
  have p2 := p2_lt hn
  rw [pc_cnt hn hs, pc_cnt hn (sd_lt (by omega))]
  have a := cnt_not (fun k => s.testBit k) n
  have b : cnt (fun k => (sd (2 ^ n - 1) s).testBit k) n = cnt (fun k => !(fun k => s.testBit k) k) n := cnt_cg fun k hk => by
    dsimp only
    rw [sd_bit, ones_bit hk]
    rfl
  omega
section
variable {h : gz_H} {T : gz_T} {E : gz_D}
theorem hallT (d : wd T E) : hall E T.2.1 < 2 ^ T.1 := fo_lt fun i hi => hsT d hi
theorem m_lostMany (V : MV h T E) : fX9_lostMany 85 h = some (nI (lostN T E), h) := by
  have H := V.H
  have b := V.b
  have p2 := p2_lt b.1
  have hT := hallT V.2.2.1
  have lp := lost_pc b.1 hT
  unfold fX9_lostMany fX9_lostMany_0 lostN
  rw [ck_t (sh_85 H), m_heldByAll V, b2_s, t_bits (by omega), b2_s, V.f, pk_sub lp.2, lp.1]
theorem gb_gone {i n : Nat} (hi : i < n) : gbits n (va_up E i ([], true)) = gbits n E ||| 2 ^ i := by
  apply bit_ext
  intro k
  rw [Nat.testBit_or, Bool.or_eq_true, bit_p]
  by_cases hk : k < n
  · rw [gb_bit hk, gb_bit hk]
    by_cases e : k = i
    · subst e; rw [up_at]; simp
    · rw [up_ne e]; simp [e]
  · have z : ∀ D : gz_D, ¬ (gbits n D).testBit k = true := fun D z => by
      unfold gbits at z
      have := (fo_pbit (q := fun i => (D i).2)).mp z
      omega
    constructor
    · intro q; exact absurd q (z _)
    · rintro (q | q)
      · exact absurd q (z _)
      · omega
theorem m_eat98 (V : MV h T E) {i : Nat} (hi : i < T.2.1) : ∃ h', fX9_eat_98 85 (nI i) h = some (nI (lostN T (va_up E i ([], true))), h') ∧ MV h' T (va_up E i ([], true)) ∧ fM h h' := by
  have H := V.H
  have b := V.b
  have w : wd T (va_up E i ([], true)) := wd_up V.2.2.1 (fun _ => gd_nil) (fun _ => rfl)
  have V' : MV (uI (uI h 86 (2 + i) (nI 0)) 86 1 (nI (gbits T.2.1 E ||| 2 ^ i))) T (va_up E i ([], true)) := by
    obtain ⟨H, ws, d, ⟨b1, b2, b3, b4⟩, g, x⟩ := V
    have o : ∀ a k, (a ≠ 86 ∨ (k ≠ 2 + i ∧ k ≠ 1)) → (uI (uI h 86 (2 + i) (nI 0)) 86 1 (nI (gbits T.2.1 E ||| 2 ^ i))).2.1 a k = h.2.1 a k := fun a k q => by rw [uI_ne (by omega), uI_ne (by omega)]
    refine ⟨H.of rfl rfl, ws, w, ⟨by rw [o 85 1 (by omega)]; exact b1, by rw [o 85 3 (by omega)]; exact b2, fun k hk => by rw [o 87 k (by omega)]; exact b3 k hk, fun j hj => by rw [o 88 j (by omega), o 89 j (by omega), o 90 j (by omega)]; exact b4 j hj⟩, by rw [gb_gone hi]; exact uI_at, fun j hj => ?_⟩
    by_cases e : j = i
    · subst e
      rw [up_at]
      refine ⟨?_, fun k hk => absurd hk (by simp)⟩
      rw [Nat.zero_add, uI_ne (by omega), uI_at]; rfl
    · rw [up_ne e]
      exact ⟨by rw [o 86 _ (by omega)]; exact (x j hj).1, fun k hk => by rw [o 86 _ (by omega)]; exact (x j hj).2 k hk⟩
  have H' := V'.H
  refine ⟨_, ?_, V', ⟨rfl, rfl, fun a k q _ => by rw [uI_ne (by omega), uI_ne (by omega)], fun k q => by rw [uI_ne (by omega), uI_ne (by omega)]⟩⟩
  unfold fX9_eat_98
  have eg : (uI h 86 (2 + i) (nI 0)).2.1 86 1 = nI (gbits T.2.1 E) := by rw [uI_ne (by omega)]; exact V.gb
  have H1 : gz_La (uI h 86 (2 + i) (nI 0)) := H.of rfl rfl
  rw [ck_t (sh_85 H), rf_85_0 H, br_s, show (2 : Int32) = nI 2 from rfl, nI_add, ck_t (in_86 H (by omega)), nI_clamp (by omega), lt_d, show (0 : Int32) = nI 0 from rfl, ck_t (sh_85 H1), rf_85_0 H1, br_s, show (1 : Int32) = nI 1 from rfl, ck_t (in_86 H1 (by decide)), nI_clamp (by decide), lt_d, eg, show (31 : Int32) = nI 31 from rfl, nI_shl (by omega), nI_or, ck_t (sh_85 H'), m_lostMany V', b2_s]
/-- by: none, or a goose -/
theorem m_eat64 (V : MV h T E) {i j : Nat} {y : Int32} (hi : i < T.2.1) (hj : (j = 15 ∧ y = -9) ∨ (j < T.2.1 ∧ j ≠ i ∧ y = nI j)) (aj : j ≠ 15 → (E j).2 = false) (R : TR h (E i).1) : ∃ h', fX9_eat_64 gz_fu 85 (nI i) y (nI 0) h = some (nI (lostN T (pf T E (3, i, j))), h') ∧ MV h' T (pf T E (3, i, j)) ∧ fM h h' := by
  have H := V.H
  have b := V.b
  have bi := V.bi i hi
  have e3 : pf T E (3, i, j) = if j = 15 then va_up E i ([], true) else va_up (va_up E j ((E i).1.foldl (tk (T.2.2.2.2.1 j)) (E j).1, (E j).2)) i ([], true) := rfl
  rw [e3]
  rcases hj with ⟨c, hy⟩ | ⟨hj, hij, hy⟩
  · subst hy
    rw [if_pos c]
    obtain ⟨h', e, V', f'⟩ := m_eat98 V hi
    refine ⟨h', ?_, V', f'⟩
    rw [show gz_fu = 99999 + 1 from rfl, fX9_eat_64, ck_t (sh_85 H), e, if_pos rfl]
    by_cases q : h.2.1 85 25 ≤ nI 0
    · rw [if_pos q]
    · rw [if_neg q]
  · subst hy
    have c : ¬ j = 15 := by omega
    rw [if_neg c]
    have hfu : (E i).1.length < 0 + gz_fu := by show (E i).1.length < 0 + 100000; omega
    generalize gz_fu = fu at hfu ⊢
    refine lpr (fun m k (s : gz_H) => fX9_eat_64 m 85 (nI i) (nI j) (nI k) s) (fun k s => MV s T (va_up E j (((E i).1.take k).foldl (tk (T.2.2.2.2.1 j)) (E j).1, (E j).2)) ∧ fM h s ∧ TR s (E i).1) (E i).1.length (fun r => ∃ h', r = some (nI (lostN T (va_up (va_up E j ((E i).1.foldl (tk (T.2.2.2.2.1 j)) (E j).1, (E j).2)) i ([], true))), h') ∧ MV h' T (va_up (va_up E j ((E i).1.foldl (tk (T.2.2.2.2.1 j)) (E j).1, (E j).2)) i ([], true)) ∧ fM h h') ?_ ?_ fu 0 h (by omega) hfu ⟨?_, fM.rf, R⟩
    · intro m s ⟨V1, f1, R1⟩
      rw [List.take_length] at V1
      have H1 := V1.H
      obtain ⟨h', e, V', f'⟩ := m_eat98 V1 hi
      refine ⟨h', ?_, V', f1.tr f'⟩
      rw [fX9_eat_64, ck_t (sh_85 H1), R1.1, if_pos (nI_le (Nat.le_refl _) (by omega)), e]
    · intro m k s hk ⟨V1, f1, R1⟩
      have H1 := V1.H
      have hf := (V.2.2.1.gd hi).2.2 _ (ld_mem hk)
      obtain ⟨h', e, V', f'⟩ := m_takeE V1 hj hf (by rw [up_at]; exact aj c)
      rw [up_at, up_up] at V'
      rw [up_at] at e
      refine ⟨h', ⟨?_, f1.tr f'.fM, by rw [TR, f'.2.2 85 25 (by omega)]; exact ⟨R1.1, fun q hq => by rw [f'.2.2 100 q (by omega)]; exact R1.2 q hq⟩⟩, ?_⟩
      · rw [take_succ_getD hk, List.foldl_append]
        exact V'
      · rw [fX9_eat_64, ck_t (sh_85 H1), R1.1, if_neg (nI_ge hk (by omega)), if_neg (show ¬ nI j = (-9 : Int32) from fun z => (nI_n9 (k := j) (by omega)).mp z), rf_85_26 H1, br_s, ck_t (in_100 H1 (by omega)), nI_clamp (by omega), R1.2 k hk, e, b2_s, nI_1]
    · rw [List.take_zero]
      show MV h T (va_up E j (E j))
      rw [up_self]
      exact V
theorem m_eat42 {D : gz_D} {ds : List gz_De} (hl : ds.length ≤ 40) {i j k : Nat} {y : Int32} (hi : i < T.2.1) (hk : k < T.2.1) (V : MV h T (rn T D ds)) (e0 : h.2.1 86 0 = nI ds.length) : fX9_eat_42 85 (nI i) y 85 (nI i) (nI k) h = if (if (rn T D ds i).2 = true ∨ (rn T D ds k).2 = true then (-4 : Int32) else if ds.length = 40 then -2 else 0) = 0 then gz_b2 (fX9_keepPast 85 h) (fun _ h_5 => gz_ck (gz_sh h_5 85 9 29) (gz_b2 (fX9_layHeld 85 (nI i) h_5) fun _ h_8 => fX9_eat_64 gz_fu 85 (nI i) y (0 : Int32) h_8)) else some (if (rn T D ds i).2 = true ∨ (rn T D ds k).2 = true then (-4 : Int32) else if ds.length = 40 then -2 else 0, h) := by
  have H := V.H
  unfold fX9_eat_42
  rw [ck_t (sh_85 H), m_no V e0 hl hi hk, b2_s, ck_t (sh_85 H)]
theorem m_eatOk {D : gz_D} {ds : List gz_De} (hl : ds.length < 40) {i j k : Nat} {y : Int32} (hi : i < T.2.1) (hj : (j = 15 ∧ y = -9) ∨ (j < T.2.1 ∧ j ≠ i ∧ y = nI j)) (hk : k < T.2.1) (gi : (rn T D ds i).2 = false) (gk : (rn T D ds k).2 = false) (aj : j ≠ 15 → (rn T D ds j).2 = false) {h1 hk1 : gz_H} (W1 : MV h1 T (rn T D ds)) (e0 : h1.2.1 86 0 = nI ds.length) (ek : fX9_keepPast 85 h1 = some ((), hk1)) (Wk : MV hk1 T (rn T D ds)) : ∃ h2, fX9_eat_42 85 (nI i) y 85 (nI i) (nI k) h1 = some (pfA T (rn T D ds) (3, i, j), h2) ∧ fM hk1 h2 ∧ MV h2 T (pf T (rn T D ds) (3, i, j)) := by
  have Hk := Wk.H
  obtain ⟨h3, e3, s3, R⟩ := m_layHeld Wk hi
  obtain ⟨h2, e2, W2, f2⟩ := m_eat64 (Wk.sc s3) hi hj aj R
  refine ⟨h2, ?_, s3.fM.tr f2, W2⟩
  have e2' : fX9_eat_64 gz_fu 85 (nI i) y (0 : Int32) h3 = some (nI (lostN T (pf T (rn T D ds) (3, i, j))), h2) := e2
  rw [m_eat42 (j := j) (by omega) hi hk W1 e0, if_neg (show ¬ ((rn T D ds i).2 = true ∨ (rn T D ds k).2 = true) from fun z => by rw [gi, gk] at z; simp at z), if_neg (show ¬ ds.length = 40 by omega), if_pos rfl, ek, b2_s, ck_t (sh_85 Hk), e3, b2_s, e2']
  rfl
theorem op_eat (I : gz_Iv h) (x1 x2 : Int32) : gz_ag (fX8_eat 0 x1 x2) (fX9_eat 85 x1 x2) h gz_Iv := by
  obtain ⟨T, D, ds, ks, sa, F⟩ := I.2
  have V := F.xv I.1.1
  have W := F.mv I.1.1
  have H := V.H
  have b := V.b
  have hl := F.1.2.2.2.1.1
  have L := F.2.2.1.2.2.1
  have m0 := F.2.2.2.2.1.1
  rcases p_cases x1 T.2.1 (by omega) with hx | ⟨i, hi, rfl⟩
  · refine ag_no I (y := -1) ?_ ?_
    · unfold fX8_eat fX8_eat_0
      rw [ck_t (sh_0 H), rf_0_9 H, br_s, ck_t (sh_28 H), x_goose_out V hx, b2_s, if_pos (by decide)]
    · unfold fX9_eat fX9_eat_0
      rw [ck_t (sh_85 H), m_goose_out W hx, b2_s, if_pos (by decide)]
  · have ni9 : ¬ nI i = (-9 : Int32) := fun z => (nI_n9 (k := i) (by omega)).mp z
    by_cases c9 : x2 = -9
    · subst c9
      have X0 : ∀ y h1, fX8_doDeed 0 (3 : Int32) (nI i) (15 : Int32) h = some (y, h1) → fX8_eat 0 (nI i) (-9) h = some (y, h1) := by
        intro y h1 e
        unfold fX8_eat fX8_eat_0
        rw [ck_t (sh_0 H), rf_0_9 H, br_s, ck_t (sh_28 H), x_goose_in V hi, b2_s, if_neg (by decide), if_neg (fun z => ni9 z.symm), if_pos rfl, ck_t (sh_0 H), e, b2_s]
      have M0 : ∀ h1, MV h1 T (rn T D ds) → fX9_eat 85 (nI i) (-9) h1 = fX9_eat_42 85 (nI i) (-9) 85 (nI i) (nI i) h1 := by
        intro h1 W1
        unfold fX9_eat fX9_eat_0 fX9_eat_29
        rw [ck_t (sh_85 W1.H), m_goose_in W1 hi, b2_s, if_neg (by decide), if_pos rfl, if_pos rfl]
      by_cases g : (rn T D ds i).2 = true
      · refine ag_no I (y := -4) (X0 _ _ (x_doGone V hi g _ _)) ?_
        rw [M0 h W, m_eat42 (j := 15) hl hi hi W m0, if_pos (Or.inl g), if_neg (by decide)]
      · have g2 : (rn T D ds i).2 = false := by simpa using g
        have g3 : ¬ ((rn T D ds i).2 = true ∨ (rn T D ds i).2 = true) := fun z => z.elim g g
        by_cases c : ds.length = 40
        · refine ag_no I (y := -2) (X0 _ _ (x_doFull V L c hi g2 _ _)) ?_
          rw [M0 h W, m_eat42 (j := 15) hl hi hi W m0, if_neg g3, if_pos c, if_neg (by decide)]
        · refine deed_end I F (d := (3, i, 15)) (vd3 hi (Or.inl rfl)) (lv3 g2 (fun z => absurd rfl z)) (by omega) X0 ?_
          intro h1 hk W1 e0 ek Wk
          rw [M0 h1 W1]
          exact m_eatOk (by omega) hi (Or.inl ⟨rfl, rfl⟩) hi g2 g2 (fun z => absurd rfl z) W1 e0 ek Wk
    · rcases p_cases x2 T.2.1 (by omega) with hx | ⟨j, hj, rfl⟩
      · have nx : ¬ x2 = nI i := fun z => by
          subst z
          rcases hx with q | q
          · exact nI_pos (by omega) q
          · exact nI_ge hi (by omega) q
        refine ag_no I (y := -1) ?_ ?_
        · unfold fX8_eat fX8_eat_0
          rw [ck_t (sh_0 H), rf_0_9 H, br_s, ck_t (sh_28 H), x_goose_in V hi, b2_s, if_neg (by decide), if_neg nx, if_neg c9, ck_t (sh_0 H), rf_0_9 H, br_s, ck_t (sh_28 H), x_goose_out V hx, b2_s, if_pos (by decide)]
        · unfold fX9_eat fX9_eat_0
          rw [ck_t (sh_85 H), m_goose_in W hi, b2_s, if_neg (by decide), if_neg c9, ck_t (sh_85 H), m_goose_out W hx, b2_s, if_pos (by decide)]
      · by_cases hij : j = i
        · subst hij
          refine ag_no I (y := -1) ?_ ?_
          · unfold fX8_eat fX8_eat_0
            rw [ck_t (sh_0 H), rf_0_9 H, br_s, ck_t (sh_28 H), x_goose_in V hi, b2_s, if_neg (by decide), if_pos rfl]
          · unfold fX9_eat fX9_eat_0
            rw [ck_t (sh_85 H), m_goose_in W hi, b2_s, if_neg (by decide), if_neg c9, ck_t (sh_85 H), m_goose_in W hi, b2_s, if_neg (by decide), if_pos rfl]
        · have nij : ¬ nI j = nI i := fun z => hij ((nI_eq (by omega) (by omega)).mp z)
          have X0 : ∀ r, (if h.2.1 (31 + 2 * j) 5 = 0 then gz_b2 (fX8_doDeed 0 (3 : Int32) (nI i) (nI j) h) (fun y_23 h_22 => some (y_23, h_22)) else some ((-4 : Int32), h)) = r → fX8_eat 0 (nI i) (nI j) h = r := by
            intro r e
            unfold fX8_eat fX8_eat_0
            rw [ck_t (sh_0 H), rf_0_9 H, br_s, ck_t (sh_28 H), x_goose_in V hi, b2_s, if_neg (by decide), if_neg nij, if_neg c9, ck_t (sh_0 H), rf_0_9 H, br_s, ck_t (sh_28 H), x_goose_in V hj, b2_s, if_neg (by decide), ck_t (sh_0 H), rf_0_9 H, br_s, ck_t (sh_28 H), rf_28_1 H, br_s, ck_t (in_30 H (by omega)), nI_clamp (by omega), rf_30 H (by omega), br_s, ck_t (sgk_31 H (by omega))]
            exact e
          have eg := V.gn j hj
          have M0 : ∀ h1, MV h1 T (rn T D ds) → fX9_eat 85 (nI i) (nI j) h1 = fX9_eat_42 85 (nI i) (nI j) 85 (nI i) (nI j) h1 := by
            intro h1 W1
            unfold fX9_eat fX9_eat_0 fX9_eat_29
            rw [ck_t (sh_85 W1.H), m_goose_in W1 hi, b2_s, if_neg (by decide), if_neg c9, ck_t (sh_85 W1.H), m_goose_in W1 hj, b2_s, if_neg (by decide), if_neg nij, if_neg c9]
          by_cases gj : (rn T D ds j).2 = true
          · refine ag_no I (y := -4) (X0 _ ?_) ?_
            · rw [eg, if_pos gj, if_neg (by decide)]
            · rw [M0 h W, m_eat42 (j := j) hl hi hj W m0, if_pos (Or.inr gj), if_neg (by decide)]
          · have gj2 : (rn T D ds j).2 = false := by simpa using gj
            rw [if_neg gj] at eg
            by_cases g : (rn T D ds i).2 = true
            · refine ag_no I (y := -4) (X0 _ ?_) ?_
              · rw [eg, if_pos (by decide), x_doGone V hi g, b2_s]
              · rw [M0 h W, m_eat42 (j := j) hl hi hj W m0, if_pos (Or.inl g), if_neg (by decide)]
            · have g2 : (rn T D ds i).2 = false := by simpa using g
              have g3 : ¬ ((rn T D ds i).2 = true ∨ (rn T D ds j).2 = true) := fun z => z.elim g gj
              by_cases c : ds.length = 40
              · refine ag_no I (y := -2) (X0 _ ?_) ?_
                · rw [eg, if_pos (by decide), x_doFull V L c hi g2, b2_s]
                · rw [M0 h W, m_eat42 (j := j) hl hi hj W m0, if_neg g3, if_pos c, if_neg (by decide)]
              · refine deed_end I F (d := (3, i, j)) (vd3 hi (Or.inr ⟨hj, hij⟩)) (lv3 g2 (fun _ => gj2)) (by omega) (fun y h1 e => X0 _ ?_) ?_
                · have e' : fX8_doDeed 0 (3 : Int32) (nI i) (nI j) h = some (y, h1) := e
                  rw [eg, if_pos (by decide), e', b2_s]
                · intro h1 hk W1 e0 ek Wk
                  rw [M0 h1 W1]
                  exact m_eatOk (by omega) hi (Or.inr ⟨hj, hij, rfl⟩) hj g2 gj2 (fun _ => gj2) W1 e0 ek Wk
end
end
