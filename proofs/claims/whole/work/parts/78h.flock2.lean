/-! PURE: flock agrees -/
section
variable {h h1 h2 q : gz_H}
theorem g_mem {G : List gz_Gs} {i : Nat} (hi : i < G.length) : G.getD i g0 ∈ G := by
  rw [List.getD_eq_getElem?_getD, List.getElem?_eq_getElem hi]
  exact List.getElem_mem hi
theorem ws_TT {L : List Nat} {G : List gz_Gs} (a : 0 < L.length ∧ L.length ≤ 8 ∧ ∀ d ∈ L, d ≤ 5) (b : 0 < G.length ∧ G.length ≤ 6 ∧ ∀ g ∈ G, gkN L.length g) : wsT (TT L G) :=
  ⟨a.2.1, b.2.1, ⟨fun z => by have z : L.length = 0 := z; omega, fun z => by have z : G.length = 0 := z; omega⟩, fun f hf => a.2.2 _ (ld_mem hf), fun i hi => by
    have := b.2.2 _ (g_mem hi)
    exact ⟨this.1, this.2.1.1, this.2.1.2, this.2.2.1⟩⟩
theorem wd_TT {L : List Nat} {G : List gz_Gs} (b : ∀ g ∈ G, gkN L.length g) : wd (TT L G) (DD G) := fun i hi => by
  have := b _ (g_mem hi)
  exact ⟨this.2.2.2.1, this.2.2.2.2.1, this.2.2.2.2.2, fun z => ff_no z⟩
theorem gl_nil {T : gz_T} {D : gz_D} (d : wd T D) : gl T D [] := ⟨by decide, fun x hx => absurd hx (by simp), fun n hn => by rw [List.take_nil]; exact d, fun n hn => absurd hn (by simp)⟩
theorem gb_none {n : Nat} {D : gz_D} (h : ∀ i, (D i).2 = false) : gbits n D = 0 := by
  unfold gbits
  have : ∀ m, fo (fun i => if (D i).2 = true then 2 ^ i else 0) m = 0 := by
    intro m
    induction m with
    | zero => rfl
    | succ m ih =>
      show fo (fun i => if (D i).2 = true then 2 ^ i else 0) m ||| (if (D m).2 = true then 2 ^ m else 0) = 0
      rw [ih, h m, if_neg (by decide)]; rfl
  exact this n
theorem vl_le {c : Nat → Int32} {n : Nat} : ∀ (k p : Nat) (L : List Nat), p ≤ n → (vlN c n k p L).2.1 ≤ n := by
  intro k
  induction k with
  | zero => intro p L h; exact h
  | succ k ih =>
    intro p L h
    rw [vlN]
    cases e : fgN c n p with
    | none => exact h
    | some d =>
      have := fg_some e
      show (if 6 ≤ d ∨ 8 ≤ L.length then (false, p, L) else vlN c n k (p + 1) (L ++ [d])).2.1 ≤ n
      by_cases y : 6 ≤ d ∨ 8 ≤ L.length
      · rw [if_pos y]; exact h
      · rw [if_neg y]; exact ih _ _ (by omega)
theorem gs_le {c : Nat → Int32} {n F mo : Nat} : ∀ (k p : Nat) (l : List Nat), p ≤ n → (gsN c n F mo k p l).2.1 ≤ n := by
  intro k
  induction k with
  | zero => intro p l h; exact h
  | succ k ih =>
    intro p l h
    rw [gsN]
    cases e : fgN c n p with
    | none => exact h
    | some f =>
      have := fg_some e
      show (if F ≤ f ∨ f ∈ l ∨ mo ≤ l.length then (false, p, l) else gsN c n F mo k (p + 1) (l ++ [f])).2.1 ≤ n
      by_cases y : F ≤ f ∨ f ∈ l ∨ mo ≤ l.length
      · rw [if_pos y]; exact h
      · rw [if_neg y]; exact ih _ _ (by omega)
theorem go_le {c : Nat → Int32} {n F p : Nat} (hp : p < n) : (goN c n F p).2.1 ≤ n := by
  unfold goN
  cases e0 : ltN (c p) with
  | none => show p ≤ n; omega
  | some kd =>
    show (match fgN c n (p + 1) with | none => (false, p + 1, g0) | some mo => if mo = 0 ∨ 9 ≤ mo then (false, p + 1, g0) else match fgN c n (p + 2) with | none => (false, p + 2, g0) | some rk => ((gsN c n F mo (n - (p + 3)) (p + 3) []).1, (gsN c n F mo (n - (p + 3)) (p + 3) []).2.1, (kd, mo, rk, (gsN c n F mo (n - (p + 3)) (p + 3) []).2.2))).2.1 ≤ n
    cases e1 : fgN c n (p + 1) with
    | none => show p + 1 ≤ n; omega
    | some mo =>
      have z1 := fg_some e1
      show (if mo = 0 ∨ 9 ≤ mo then (false, p + 1, g0) else match fgN c n (p + 2) with | none => (false, p + 2, g0) | some rk => ((gsN c n F mo (n - (p + 3)) (p + 3) []).1, (gsN c n F mo (n - (p + 3)) (p + 3) []).2.1, (kd, mo, rk, (gsN c n F mo (n - (p + 3)) (p + 3) []).2.2))).2.1 ≤ n
      by_cases y : mo = 0 ∨ 9 ≤ mo
      · rw [if_pos y]; show p + 1 ≤ n; omega
      · rw [if_neg y]
        cases e2 : fgN c n (p + 2) with
        | none => show p + 2 ≤ n; omega
        | some rk =>
          have z2 := fg_some e2
          exact gs_le (n - (p + 3)) (p + 3) [] (by omega)
theorem fl_le {c : Nat → Int32} {n F : Nat} : ∀ (k p : Nat) (G : List gz_Gs), p ≤ n → (flN c n F k p G).2.1 ≤ n := by
  intro k
  induction k with
  | zero => intro p G h; exact h
  | succ k ih =>
    intro p G h
    rw [flN]
    by_cases z : p < n
    · rw [if_pos z]
      by_cases y : (goN c n F p).1 = true
      · rw [if_pos y]; exact ih _ _ (sk_le _ _ (go_le z))
      · rw [if_neg y]; exact go_le z
    · rw [if_neg z]; exact h
theorem rd_le {c : Nat → Int32} {n : Nat} : (rdN c n).2.1 ≤ n := by
  have v : (viN c n (skN c n n 0)).2.1 ≤ n := by
    have s := sk_le (c := c) (n := n) n 0 (by omega)
    unfold viN
    by_cases y : skN c n n 0 < n ∧ c (skN c n n 0) = 118
    · rw [if_pos y]; exact vl_le _ _ _ (by omega)
    · rw [if_neg y]; exact s
  unfold rdN
  by_cases y : (viN c n (skN c n n 0)).1 = true
  · rw [if_pos y]; exact fl_le _ _ _ (sk_le _ _ v)
  · rw [if_neg y]; exact v
/-- the kept ones are none -/
theorem x_fl98 (H : gz_La q) : ∃ q', fX8_flock_98 gz_fu 0 (0 : Int32) q = gz_b2 (fX8_repeatDeeds 0 q') (fun _ h_2 => gz_ck (gz_sh h_2 0 8 19) (gz_br (h_2.2.2.2 0 9) fun r_6 => gz_ck (gz_sh h_2 r_6 1 4) (some (h_2.2.1 r_6 3, h_2)))) ∧ q'.1 = q.1 ∧ q'.2.2 = q.2.2 ∧ (∀ a k, ¬ (79 ≤ a ∧ a ≤ 84) → q'.2.1 a k = q.2.1 a k) ∧ ∀ k, k < 3 → q'.2.1 (79 + 2 * k) 1 = -1 := by
  have hfu : 3 < 0 + gz_fu := by show 3 < 0 + 100000; omega
  generalize ef : gz_fu = fu at hfu
  refine lpr (fun m k (s : gz_H) => fX8_flock_98 m 0 (nI k) s) (fun k s => s.1 = q.1 ∧ s.2.2 = q.2.2 ∧ (∀ a j, ¬ (79 ≤ a ∧ a ≤ 84) → s.2.1 a j = q.2.1 a j) ∧ ∀ j, j < k → s.2.1 (79 + 2 * j) 1 = -1) 3 (fun r => ∃ q', r = gz_b2 (fX8_repeatDeeds 0 q') (fun _ h_2 => gz_ck (gz_sh h_2 0 8 19) (gz_br (h_2.2.2.2 0 9) fun r_6 => gz_ck (gz_sh h_2 r_6 1 4) (some (h_2.2.1 r_6 3, h_2)))) ∧ q'.1 = q.1 ∧ q'.2.2 = q.2.2 ∧ (∀ a k, ¬ (79 ≤ a ∧ a ≤ 84) → q'.2.1 a k = q.2.1 a k) ∧ ∀ k, k < 3 → q'.2.1 (79 + 2 * k) 1 = -1) ?_ ?_ fu 0 q (by omega) hfu ⟨rfl, rfl, fun _ _ _ => rfl, fun j hj => absurd hj (by omega)⟩
  · rintro m s ⟨s1, s2, s3, s4⟩
    have Hs : gz_La s := H.of s1 (congrArg Prod.snd s2)
    refine ⟨s, ?_, s1, s2, s3, s4⟩
    rw [fX8_flock_98, if_pos (by decide), ck_t (sh_0 Hs)]
  · rintro m k s hk ⟨s1, s2, s3, s4⟩
    have Hs : gz_La s := H.of s1 (congrArg Prod.snd s2)
    refine ⟨uI s (79 + 2 * k) 1 (-1), ⟨s1, s2, fun a j z => by rw [uI_ne (by omega)]; exact s3 a j z, fun j hj => ?_⟩, ?_⟩
    · by_cases c : j = k
      · rw [c, uI_at]
      · rw [uI_ne (by omega)]; exact s4 j (by omega)
    · rw [fX8_flock_98, if_neg (show ¬ (3 : Int32) ≤ nI k from nI_ge hk (by decide)), ck_t (sh_0 Hs), rf_0_8 Hs, br_s, ck_t (in_27 Hs hk), nI_clamp (by omega), rf_27 Hs hk, br_s, ck_t (slk_79 Hs hk), lt_d, nI_1]
theorem op_flock (I : gz_Iv h) (x1 : Int32) : gz_ag (fX8_flock 0 x1) (fX9_flock 85 x1) h gz_Iv := by
  obtain ⟨T, D, ds, ks, sa, F⟩ := I.2
  have H := I.1.1
  have S := H.texts I.1.2.1
  rcases p_cases x1 4 (by omega) with hx | ⟨t, ht, rfl⟩
  · refine ag_no I (y := -1) ?_ ?_
    · unfold fX8_flock fX8_flock_0
      rw [ck_t (sh_0 H), rf_0_1 H, br_s, ck_t (sh_10 H), p_knows_out S hx, b2_s, if_pos (by decide)]
    · unfold fX9_flock fX9_flock_0
      rw [p_isText_out hx, b2_s, if_pos (by decide)]
  obtain ⟨t1, t2, t3⟩ := I.1.2.2.2.1 t ht
  rcases t2 with e | ⟨n, hn, e⟩
  · refine ag_iv I (st_findE I.1 (f := 1) (by decide) ?_ ?_)
    · unfold fX8_flock fX8_flock_0
      rw [ck_t (sh_0 H), rf_0_1 H, br_s, ck_t (sh_10 H), p_knows_in S ht, b2_s, if_neg (by decide), ck_t (sh_0 H), rf_0_1 H, br_s, ck_t (sh_10 H), p_has0 S ht e, b2_s, if_pos (by decide), ck_t (sh_0 H), rf_0_3 H, br_s, ck_t (sh_18 H), show (1 : Int32) = nI 1 from rfl, p_answer H (by decide), b2_s]
    · have H1 := gz_xf_La (f := 1) H
      have e1 : (gz_xf h 1).2.1 93 t = -1 := by rw [gz_xf_I 93 t (by decide) (by decide), ← t1]; exact e
      unfold fX9_flock fX9_flock_0
      rw [p_isText_in ht, b2_s, if_neg (by decide), ck_t (sh_85 H1), rf_85_9 H1, br_s, ck_t (in_93 H1 ht), nI_clamp (by omega), e1, if_neg (by decide), show (1 : Int32) = nI 1 from rfl, p_find H1 (by decide), b2_s]
  · have hsa := F.2.1.1
    have r10 := F.2.1.2.1
    have r11 := F.2.1.2.2
    obtain ⟨q1, e1, C1, H1, ok1⟩ := x_read (c := fun k => h.2.1 (12 + t) k) (dr := 101 - sa) H ht hn (by omega) (fun k hk => rfl)
    have X0 : ∀ y : Int32, rdA (rdN (fun k => h.2.1 (12 + t) k) n) = y → fX8_flock 0 (nI t) h = if y = (-9 : Int32) then gz_ck (gz_sh q1 0 8 19) (gz_br (q1.2.2.2 0 11) fun r_28 => gz_br (q1.2.2.2 0 10) fun r_29 => gz_lt (uR q1 0 11 (some r_29)) fun h_30 => gz_ck (gz_sh h_30 0 8 19) (gz_lt (uR h_30 0 10 (some r_28)) fun h_32 => gz_ck (gz_sh h_32 0 8 19) (gz_br (h_32.2.2.2 0 7) fun r_34 => gz_ck (gz_sh h_32 r_34 3 2) (gz_lt (uI h_32 r_34 1 (0 : Int32)) fun h_36 => fX8_flock_98 gz_fu 0 (0 : Int32) h_36)))) else some (-4, q1) := by
      intro y ey
      rw [ey] at e1
      unfold fX8_flock fX8_flock_0
      rw [ck_t (sh_0 H), rf_0_1 H, br_s, ck_t (sh_10 H), p_knows_in S ht, b2_s, if_neg (by decide), ck_t (sh_0 H), rf_0_1 H, br_s, ck_t (sh_10 H), p_has1 S ht (by rw [e]; exact n_ne n (by omega)), b2_s, if_neg (by decide), ck_t (sh_0 H), rf_0_2 H, br_s, rf_0_1 H, br_s, ck_t (sh_10 H), rf_10_1 H, br_s, ck_t (in_11 H ht), nI_clamp (by omega), rf_11 H ht, br_s, rf_10_2 H, br_s, ck_t (in_16 H ht), r11, br_s, ck_t (sh_17 H), e, e1, b2_s]
    have M0 : ∀ s : gz_H, gz_La s → s.2.1 93 t = nI n → fX9_flock 85 (nI t) s = gz_b2 (fX9_faultOf 85 (nI t) s) (fun y_9 h_8 => if y_9 = (-9 : Int32) then gz_ck (gz_sh h_8 85 9 29) (gz_lt (uI h_8 85 1 (h_8.2.1 85 20)) fun h_12 => gz_ck (gz_sh h_12 85 9 29) (gz_lt (uI h_12 85 3 (h_12.2.1 85 24)) fun h_14 => fX9_flock_55 gz_fu 85 (0 : Int32) h_14)) else some (-4, h_8)) := by
      intro s Hs z
      unfold fX9_flock fX9_flock_0
      rw [p_isText_in ht, b2_s, if_neg (by decide), ck_t (sh_85 Hs), rf_85_9 Hs, br_s, ck_t (in_93 Hs ht), nI_clamp (by omega), z, if_pos (nI_pos' (by omega))]
    have z93 : q1.2.1 93 t = nI n := by rw [C1.2.2.2 93 t (by omega) (by omega), ← t1]; exact e
    cases er : (rdN (fun k => h.2.1 (12 + t) k) n).1 with
    | false =>
      have ea : rdA (rdN (fun k => h.2.1 (12 + t) k) n) = nI (rdN (fun k => h.2.1 (12 + t) k) n).2.1 := if_neg (by rw [er]; decide)
      have pn : (rdN (fun k => h.2.1 (12 + t) k) n).2.1 < 2 ^ 31 := by have := rd_le (c := fun k => h.2.1 (12 + t) k) (n := n); omega
      obtain ⟨q2, e2, C2, H2, _⟩ := m_read (c := fun k => h.2.1 (12 + t) k) H1 ht hn z93 (fun k hk => by rw [C1.2.2.2 94 _ (by omega) (by omega), ← t3 k (by omega)])
      refine ⟨-4, q1, q2, ?_, H1.1, ?_, iv_rd I F C1 C2⟩
      · rw [X0 _ ea, if_neg (n_ne9 _ pn)]
      · rw [M0 q1 H1 z93, e2, ea, b2_s, if_neg (n_ne9 _ pn)]
    | true =>
      have ea : rdA (rdN (fun k => h.2.1 (12 + t) k) n) = -9 := if_pos er
      obtain ⟨x1, bL, bG⟩ := ok1 er
      have G6 := bG.2.1
      have ws := ws_TT bL bG
      have wdd := wd_TT bG.2.2
      -- the class
      have H30 : gz_La (uR q1 0 11 (some sa)) := La_of2 H1 rfl (fun a k z1 z2 => by rw [uR_RR, if_neg (by omega)])
      have H32 : gz_La (uR (uR q1 0 11 (some sa)) 0 10 (some (101 - sa))) := La_of2 H30 rfl (fun a k z1 z2 => by rw [uR_RR, if_neg (by omega)])
      have H36 : gz_La (uI (uR (uR q1 0 11 (some sa)) 0 10 (some (101 - sa))) 25 1 (0 : Int32)) := H32.of rfl rfl
      obtain ⟨q3, e3, d1, d2, d3, d4⟩ := x_fl98 H36
      have r3 : q3.2.2.2 = (uR (uR q1 0 11 (some sa)) 0 10 (some (101 - sa))).2.2.2 := congrArg Prod.snd d2
      have H3 : gz_La q3 := H36.of d1 r3
      have o3 : ∀ a k, ¬ (79 ≤ a ∧ a ≤ 84) → (a ≠ 25 ∨ k ≠ 1) → q3.2.1 a k = q1.2.1 a k := fun a k z1 z2 => by rw [d3 a k z1, uI_ne (by omega)]; rfl
      have x3 : xv q3 (101 - sa) (TT (rdN (fun k => h.2.1 (12 + t) k) n).2.2.1 (rdN (fun k => h.2.1 (12 + t) k) n).2.2.2) (DD (rdN (fun k => h.2.1 (12 + t) k) n).2.2.2) := xvL x1 G6 H3 (by omega) (fun a k z1 z2 => o3 a k (by omega) (by omega))
      have L3 : lgv q3 25 [] := ⟨by rw [d3 25 1 (by omega), uI_at]; rfl, fun k hk => absurd hk (by simp)⟩
      have p10 : q3.2.2.2 0 10 = some (101 - sa) := by rw [r3, uR_RR, if_pos ⟨rfl, rfl⟩]
      have p11 : q3.2.2.2 0 11 = some sa := by rw [r3, uR_RR, if_neg (by omega), uR_RR, if_pos ⟨rfl, rfl⟩]
      obtain ⟨q4, e4, V4, f4⟩ := x_repeat H3 ws wdd (sa := 101 - sa) (by omega) p10 x3 L3 (gl_nil wdd)
      have H4 := V4.H
      have o4 : ∀ a k, ¬ (28 ≤ a ∧ a ≤ 42) → ¬ (79 ≤ a ∧ a ≤ 84) → (a ≠ 25 ∨ k ≠ 1) → a ≠ 17 → ¬ (101 - sa ≤ a ∧ a ≤ 101 - sa + 14) → q4.2.1 a k = h.2.1 a k := fun a k z1 z2 z3 z4 z5 => by rw [f4.2.2 a k z1, o3 a k z2 z3, C1.2.2.2 a k z4 z5]
      -- the reference
      have z4 : q4.2.1 93 t = nI n := by rw [o4 93 t (by omega) (by omega) (by omega) (by omega) (by omega), ← t1]; exact e
      obtain ⟨q5, e5, C5, H5, ok5⟩ := m_read (c := fun k => h.2.1 (12 + t) k) H4 ht hn z4 (fun k hk => by rw [o4 94 _ (by omega) (by omega) (by omega) (by omega) (by omega), ← t3 k (by omega)])
      obtain ⟨yL, yG⟩ := ok5 er
      have V28 : q4.2.1 28 3 = nI (rdN (fun k => h.2.1 (12 + t) k) n).2.2.2.length := V4.2.2.2.2.1
      have xN : xv q4 28 (TT (rdN (fun k => h.2.1 (12 + t) k) n).2.2.1 (rdN (fun k => h.2.1 (12 + t) k) n).2.2.2) (DD (rdN (fun k => h.2.1 (12 + t) k) n).2.2.2) := V4.2.2.2
      have X : fX8_flock 0 (nI t) h = some (nI (rdN (fun k => h.2.1 (12 + t) k) n).2.2.2.length, q4) := by
        rw [X0 _ ea, if_pos rfl, ck_t (sh_0 H1), C1.2.2.1 0 11 (by omega), r11, br_s, C1.2.2.1 0 10 (by omega), r10, br_s, lt_d, ck_t (sh_0 H30), lt_d, ck_t (sh_0 H32), rf_0_7 H32, br_s, ck_t (sh_25 H32), lt_d, e3, e4, b2_s, ck_t (sh_0 H4), rf_0_9 H4, br_s, ck_t (sh_28 H4), V28]
      generalize (rdN (fun k => h.2.1 (12 + t) k) n).2.2.1 = L at *
      generalize (rdN (fun k => h.2.1 (12 + t) k) n).2.2.2 = G at *
      have H51 : gz_La (uI q5 85 1 (nI L.length)) := H5.of rfl rfl
      have H52 : gz_La (uI (uI q5 85 1 (nI L.length)) 85 3 (nI G.length)) := H5.of rfl rfl
      have M : fX9_flock 85 (nI t) q4 = fX9_flock_55 gz_fu 85 (0 : Int32) (uI (uI q5 85 1 (nI L.length)) 85 3 (nI G.length)) := by
        rw [M0 q4 H4 z4, e5, ea, b2_s, if_pos rfl, ck_t (sh_85 H5), yL.1, lt_d, ck_t (sh_85 H51), uI_ne (by omega), yG.1, lt_d]
      obtain ⟨u3, a1, a2, a3, a4, a5⟩ := m_fl55 H52 (F := L.length) bL.2.1 (by rw [uI_ne (by omega), uI_at])
      have Hu3 : gz_La u3 := H52.of a2 (congrArg Prod.snd a3)
      obtain ⟨u4, b1, b2, b3, b4, b5⟩ := m_fl83 Hu3
      have Hu4 : gz_La u4 := Hu3.of b2 (congrArg Prod.snd b3)
      have o5 : ∀ a k, a ≠ 86 → a ≠ 87 → (a ≠ 85 ∨ (k ≠ 1 ∧ k ≠ 3)) → u4.2.1 a k = q5.2.1 a k := fun a k z1 z2 z3 => by rw [b4 a k z1, a4 a k z2, uI_ne (by omega), uI_ne (by omega)]
      have u43 : u4.2.1 85 3 = nI G.length := by rw [b4 85 3 (by omega), a4 85 3 (by omega), uI_at]
      obtain ⟨u5, c1, c2, c3, c4, c5, c6⟩ := m_fl105 Hu4 (G := G.length) G6 u43 (fun i hi => ⟨_, (by have := bG.2.2 _ (g_mem hi); exact Nat.le_trans this.2.2.2.1 this.2.1.2), by rw [o5 98 i (by omega) (by omega) (by omega)]; exact (yG.2 i hi).2.2.2.1⟩)
      have Hu5 : gz_La u5 := Hu4.of c2 (congrArg Prod.snd c3)
      obtain ⟨u6, g1, g2, g3, g4, g5⟩ := m_fl224 Hu5
      have o6 : ∀ a k, ¬ (86 ≤ a ∧ a ≤ 90) → (a ≠ 85 ∨ (k ≠ 1 ∧ k ≠ 3)) → ¬ mfc a k → u6.2.1 a k = q4.2.1 a k := fun a k z1 z2 z3 => by rw [g4 a k (by omega), c4 a k (by omega) (by omega) (by omega) (by omega), o5 a k (by omega) (by omega) z2, C5.2.2 a k z3]
      unfold mfc at o6
      have sh6 : u6.1 = q4.1 := g2.trans (c2.trans (b2.trans (a2.trans C5.1)))
      have rr6 : u6.2.2 = q4.2.2 := g3.trans (c3.trans (b3.trans (a3.trans C5.2.1)))
      have rf6 : u6.2.2.2 = q3.2.2.2 := (congrArg Prod.snd rr6).trans (congrArg Prod.snd f4.2.1)
      have H6 : gz_La u6 := H4.of sh6 (congrArg Prod.snd rr6)
      have lg6 : u6.2.2.1 = h.2.2.1 := by
        rw [congrArg Prod.fst rr6, congrArg Prod.fst f4.2.1, congrArg Prod.fst d2]
        exact C1.2.1
      have oh : ∀ a k, ¬ (86 ≤ a ∧ a ≤ 90) → (a ≠ 85 ∨ (k ≠ 1 ∧ k ≠ 3 ∧ k ≠ 16 ∧ k ≠ 17 ∧ k ≠ 18 ∧ k ≠ 20 ∧ k ≠ 24)) → ¬ (96 ≤ a ∧ a ≤ 99) → ¬ (28 ≤ a ∧ a ≤ 72) → ¬ (79 ≤ a ∧ a ≤ 84) → a ≠ 25 → a ≠ 17 → u6.2.1 a k = h.2.1 a k := fun a k z1 z2 z3 z4 z5 z6 z7 => by rw [o6 a k z1 (by omega) (by omega), o4 a k (by omega) (by omega) (by omega) (by omega) (by omega)]
      have u64 : ∀ i, i < G.length → tkn q5 u6 i := fun i hi => by
        have l6 : (G.getD i g0).2.2.2.length ≤ 8 := by have := bG.2.2 _ (g_mem hi); exact Nat.le_trans this.2.2.2.1 this.2.1.2
        obtain ⟨k1, k2, k3, k4, k5⟩ := c6 i hi
        refine ⟨by rw [g4 88 i (by omega), k1, o5 97 _ (by omega) (by omega) (by omega)], by rw [g4 89 i (by omega), k2, o5 97 _ (by omega) (by omega) (by omega)], by rw [g4 90 i (by omega), k3, o5 97 _ (by omega) (by omega) (by omega)], by rw [g4 86 _ (by omega), k4, o5 98 _ (by omega) (by omega) (by omega)], fun n' k w1 w2 w3 => ?_⟩
        rw [g4 86 _ (by omega), k5 n' k (by rw [o5 98 _ (by omega) (by omega) (by omega)]; exact w1) w2 w3, o5 99 _ (by omega) (by omega) (by omega)]
      refine ⟨nI G.length, q4, u6, X, H4.1, ?_, ?_⟩
      · rw [M, a1, b1, c1, g1, c4 85 3 (by omega) (by omega) (by omega) (by omega), u43]
      · obtain ⟨⟨_, Fx, Rw, Tx, Sc⟩, _⟩ := I
        refine ⟨⟨H6, Fx.cg (fun a k z => oh a k (by omega) (by omega) (by omega) (by omega) (by omega) (by omega) (by omega)), Rw.cg (fun a k z => oh a k (by omega) (by omega) (by omega) (by omega) (by omega) (by omega) (by omega)), Tx.cg (fun a k z => oh a k (by omega) (by omega) (by omega) (by omega) (by omega) (by omega) (by omega)), Sc.cg (fun a k z => oh a k (by omega) (by omega) (by omega) (by omega) (by omega) (by omega) (by omega)) lg6⟩, TT L G, DD G, [], fun _ => none, 101 - sa, ⟨ws, wdd, fun i hi => rfl, gl_nil wdd, fun k es hk z => absurd z (by simp)⟩, ⟨by omega, by rw [rf6]; exact p10, by rw [rf6, p11]; exact congrArg some (by omega)⟩, ⟨?_, ?_, ?_, fun k hk => ?_⟩, ⟨⟨?_, ?_, fun k hk => ?_, fun i hi => ?_⟩, ⟨?_, ⟨?_, fun i hi => ?_⟩, fun m hm => absurd hm (by simp)⟩, fun k hk => ?_⟩⟩
        · exact xvL x3 G6 H6 (by omega) (fun a k w1 w2 => by rw [o6 a k (by omega) (by omega) (by omega), f4.2.2 a k (by omega)])
        · exact xvL xN G6 H6 (by omega) (fun a k w1 w2 => o6 a k (by omega) (by omega) (by omega))
        · exact L3.cg (fun a k w1 w2 => by rw [o6 a k (by omega) (by omega) (by omega), f4.2.2 a k (by omega)])
        · show u6.2.1 (79 + 2 * k) 1 = -1
          rw [o6 _ _ (by omega) (by omega) (by omega), f4.2.2 _ _ (by omega)]
          exact d4 k hk
        · rw [g4 85 1 (by omega), c4 85 1 (by omega) (by omega) (by omega) (by omega), b4 85 1 (by omega), a4 85 1 (by omega), uI_ne (by omega), uI_at]
          rfl
        · rw [g4 85 3 (by omega), c4 85 3 (by omega) (by omega) (by omega) (by omega), u43]
          rfl
        · rw [g4 87 k (by omega), c4 87 k (by omega) (by omega) (by omega) (by omega), b4 87 k (by omega), a5 k hk, uI_ne (by omega), uI_ne (by omega)]
          exact yL.2 k hk
        · obtain ⟨k1, k2, k3, k4, k5⟩ := u64 i hi
          obtain ⟨y1, y2, y3, y4, y5⟩ := yG.2 i hi
          exact ⟨k1.trans y1, k2.trans y2, k3.trans y3⟩
        · rw [g4 86 0 (by omega), c5 0 (by omega), b5 0 (by omega)]
          rfl
        · rw [g4 86 _ (by omega), c5 _ (by omega), b5 _ (by omega)]
          show (0 : Int32) = nI (gbits G.length (DD G))
          rw [gb_none (fun i => rfl)]
          rfl
        · obtain ⟨k1, k2, k3, k4, k5⟩ := u64 i hi
          obtain ⟨y1, y2, y3, y4, y5⟩ := yG.2 i hi
          have l6 : (G.getD i g0).2.2.2.length ≤ 8 := by have := bG.2.2 _ (g_mem hi); exact Nat.le_trans this.2.2.2.1 this.2.1.2
          refine ⟨?_, fun k hk => ?_⟩
          · rw [Nat.zero_add]; exact k4.trans y4
          · rw [Nat.zero_add]; exact (k5 _ k y4 l6 hk).trans (y5 k hk)
        · exact g5 k hk
end
