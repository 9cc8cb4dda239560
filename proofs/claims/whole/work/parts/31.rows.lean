/-! PURE: shelves (rows, texts), findings, the scalars -/
/-- a shelf s: its outer array o, rows at b, b + 1, .., sizes z; c of them, g places each -/
def gz_Sf (h : gz_H) (s o b z c g : Nat) : Prop := h.1[s]? = some (7, 3) ∧ h.2.2.2 s 1 = some o ∧ h.2.2.2 s 2 = some z ∧ h.1[o]? = some (13, c) ∧ h.1[z]? = some (10, c) ∧ (∀ k, k < c → h.2.2.2 o k = some (b + k) ∧ h.1[b + k]? = some (10, g)) ∧ h.2.1 s 0 = nI g ∧ c ≤ 6 ∧ g ≤ 80
def gz_Fx (h : gz_H) : Prop := h.2.1 1 0 = nI 40 ∧ h.2.1 10 0 = nI 80
theorem gz_La.rows {h : gz_H} (H : gz_La h) (F : gz_Fx h) : gz_Sf h 1 2 3 9 6 40 := by
  refine ⟨H.sh rfl, H.rf 1 1 2 (by decide), H.rf 1 2 9 (by decide), H.sh rfl, H.sh rfl, fun k hk => ?_, F.1, by decide, by decide⟩
  match k, hk with
  | 0, _ => exact ⟨H.rf 2 0 3 (by decide), H.sh rfl⟩
  | 1, _ => exact ⟨H.rf 2 1 4 (by decide), H.sh rfl⟩
  | 2, _ => exact ⟨H.rf 2 2 5 (by decide), H.sh rfl⟩
  | 3, _ => exact ⟨H.rf 2 3 6 (by decide), H.sh rfl⟩
  | 4, _ => exact ⟨H.rf 2 4 7 (by decide), H.sh rfl⟩
  | 5, _ => exact ⟨H.rf 2 5 8 (by decide), H.sh rfl⟩
  | k + 6, hk => exact absurd hk (by omega)
theorem gz_La.texts {h : gz_H} (H : gz_La h) (F : gz_Fx h) : gz_Sf h 10 11 12 16 4 80 := by
  refine ⟨H.sh rfl, H.rf 10 1 11 (by decide), H.rf 10 2 16 (by decide), H.sh rfl, H.sh rfl, fun k hk => ?_, F.2, by decide, by decide⟩
  match k, hk with
  | 0, _ => exact ⟨H.rf 11 0 12 (by decide), H.sh rfl⟩
  | 1, _ => exact ⟨H.rf 11 1 13 (by decide), H.sh rfl⟩
  | 2, _ => exact ⟨H.rf 11 2 14 (by decide), H.sh rfl⟩
  | 3, _ => exact ⟨H.rf 11 3 15 (by decide), H.sh rfl⟩
  | k + 4, hk => exact absurd hk (by omega)
section
variable {h : gz_H} {s o b z c g : Nat}
theorem p_knows_in (S : gz_Sf h s o b z c g) {k : Nat} (hk : k < c) : fX7_knows s (nI k) h = some (1, h) := by
  obtain ⟨s1, s2, s3, s4, s5, s6, s7, s8, s9⟩ := S
  unfold fX7_knows fX7_knows_0
  rw [if_neg (nI_pos (by omega)), ck_t (sh_t s1), s3, br_s, len_s s5 (by decide), bi_s, if_neg (nI_ge hk (by omega))]
theorem p_knows_out (S : gz_Sf h s o b z c g) {x : Int32} (hx : p_out x c) : fX7_knows s x h = some (0, h) := by
  obtain ⟨s1, s2, s3, s4, s5, s6, s7, s8, s9⟩ := S
  unfold fX7_knows fX7_knows_0
  by_cases e : x < 0
  · rw [if_pos e]
  · rw [if_neg e, ck_t (sh_t s1), s3, br_s, len_s s5 (by decide), bi_s, if_pos (hx.resolve_left e)]
theorem p_has (S : gz_Sf h s o b z c g) {k : Nat} (hk : k < c) : fX7_has s (nI k) h = some (if h.2.1 z k = -1 then 0 else 1, h) := by
  obtain ⟨s1, s2, s3, s4, s5, s6, s7, s8, s9⟩ := S
  unfold fX7_has fX7_has_0
  rw [ck_t (sh_t s1), s3, br_s, ck_t (inb_nI s5 hk (by omega)), nI_clamp (by omega)]
  by_cases e : h.2.1 z k = -1
  · rw [if_pos e, if_pos e]
  · rw [if_neg e, if_neg e]
theorem p_has0 (S : gz_Sf h s o b z c g) {k : Nat} (hk : k < c) (e : h.2.1 z k = -1) : fX7_has s (nI k) h = some (0, h) := by rw [p_has S hk, if_pos e]
theorem p_has1 (S : gz_Sf h s o b z c g) {k : Nat} (hk : k < c) (e : ¬ h.2.1 z k = -1) : fX7_has s (nI k) h = some (1, h) := by rw [p_has S hk, if_neg e]
theorem p_make (S : gz_Sf h s o b z c g) {k : Nat} (hk : k < c) (n v : Int32) : fX7_make s (nI k) n v h = some ((), uI (uF h (b + k) (fun j => if j < g then v else h.2.1 (b + k) j)) z k n) := by
  obtain ⟨s1, s2, s3, s4, s5, s6, s7, s8, s9⟩ := S
  unfold fX7_make fX7_make_0
  rw [ck_t (sh_t s1), s2, br_s, ck_t (inb_nI s4 hk (by omega)), nI_clamp (by omega), (s6 k hk).1, br_s, p_fill (s6 k hk).2 (by omega), b2_s]
  simp only [lt_d, uI_1, uI_R, uI_L, uF_1, uF_R, uF_L, uL_1, uL_I, uL_R, uR_1, uR_I, uR_L, inb_uI, inb_uF, inb_uL, inb_uR, len_uI, len_uF, sh_uI, sh_uF, sh_uL, sh_uR]
  rw [ck_t (sh_t s1), s3, br_s, ck_t (inb_nI s5 hk (by omega))]
theorem p_str (S : gz_Sf h s o b z c g) {k : Nat} (hk : k < c) (i n : Int32) : fX7_hasStretch s (nI k) i n h = some (if 0 ≤ i.toInt ∧ i.toInt + n.toInt ≤ (h.2.1 z k).toInt then 1 else 0, h) := by
  obtain ⟨s1, s2, s3, s4, s5, s6, s7, s8, s9⟩ := S
  unfold fX7_hasStretch fX7_hasStretch_0
  by_cases e : i < 0
  · rw [if_pos e, if_neg (by rw [Int32.lt_iff_toInt_lt] at e; simp at e; omega)]
  · rw [if_neg e, ck_t (sh_t s1), s3, br_s, ck_t (inb_nI s5 hk (by omega)), nI_clamp (by omega)]
    have hs : (i.toInt64 + n.toInt64).toInt = i.toInt + n.toInt := by
      have a1 := i.toInt_lt
      have a2 := i.le_toInt
      have b1 := n.toInt_lt
      have b2 := n.le_toInt
      rw [Int64.toInt_add, l_of, l_of, Int.bmod_eq_of_le] <;> omega
    have e0 : 0 ≤ i.toInt := by
      have := Int32.not_lt.mp e
      simpa [Int32.le_iff_toInt_le] using this
    by_cases e1 : (h.2.1 z k).toInt64 < i.toInt64 + n.toInt64
    · rw [if_pos ((cmp_gt _ _).mpr e1), if_neg (by rw [Int64.lt_iff_toInt_lt, hs, l_of] at e1; omega)]
    · rw [if_neg (fun q => e1 ((cmp_gt _ _).mp q)), if_pos (by rw [Int64.lt_iff_toInt_lt, hs, l_of] at e1; omega)]
end
/-- a finding, in the class and in the reference -/
def gz_xf (h : gz_H) (f : Nat) : gz_H := uI (uI h 18 1 (nI f)) 19 f (h.2.1 19 f + 1)
def gz_mf (h : gz_H) (f : Nat) : gz_H := uI (uI h 85 14 (nI f)) 95 f (h.2.1 95 f + 1)
theorem p_answer {h : gz_H} (H : gz_La h) {f : Nat} (hf : f < 6) : fX0_answer 18 (nI f) h = some (-3, gz_xf h f) := by
  unfold fX0_answer fX0_answer_0
  simp only [lt_d, uI_1, uI_R, uI_L, uF_1, uF_R, uF_L, uL_1, uL_I, uL_R, uR_1, uR_I, uR_L, inb_uI, inb_uF, inb_uL, inb_uR, len_uI, len_uF, sh_uI, sh_uF, sh_uL, sh_uR]
  rw [ck_t (H.ck rfl), ck_t (H.ck rfl), H.rf 18 0 19 (by decide), br_s, ck_t (inb_nI (k := 10) (n := 6) (H.sh rfl) hf (by decide)), nI_clamp (by omega), uI_I, if_neg (by omega)]
  rfl
theorem p_find {h : gz_H} (H : gz_La h) {f : Nat} (hf : f < 6) : fX9_find 85 (nI f) h = some (-3, gz_mf h f) := by
  unfold fX9_find fX9_find_0
  simp only [lt_d, uI_1, uI_R, uI_L, uF_1, uF_R, uF_L, uL_1, uL_I, uL_R, uR_1, uR_I, uR_L, inb_uI, inb_uF, inb_uL, inb_uR, len_uI, len_uF, sh_uI, sh_uF, sh_uL, sh_uR]
  rw [ck_t (H.ck rfl), ck_t (H.ck rfl), H.rf 85 15 95 (by decide), br_s, ck_t (inb_nI (k := 10) (n := 6) (H.sh rfl) hf (by decide)), nI_clamp (by omega), uI_I, if_neg (by omega)]
  rfl
theorem p_inS {x : Int32} {a b : Int64} {h : gz_H} (c : Prop) [Decidable c] (e : c ↔ a.toInt ≤ x.toInt ∧ x.toInt ≤ b.toInt) : gz_b2 (fX9_in x.toInt64 a b h) (fun y h1 => gz_ck (gz_bo y) (some (y, h1))) = some (if c then 1 else 0, h) := by
  rw [p_in, b2_s]
  by_cases hc : c
  · rw [if_pos (e.mp hc), if_pos hc, ck_t bo_1]
  · rw [if_neg (fun z => hc (e.mpr z)), if_neg hc, ck_t bo_0]
theorem p_isRow_in {h : gz_H} {k : Nat} (hk : k < 6) : fX9_isRow (nI k) h = some (1, h) := by
  unfold fX9_isRow fX9_isRow_0
  rw [p_inS True ⟨fun _ => by rw [nI_toInt (by omega)]; exact ⟨by simp, by show (k : Int) ≤ 5; omega⟩, fun _ => trivial⟩]
  simp
theorem p_isRow_out {h : gz_H} {x : Int32} (hx : p_out x 6) : fX9_isRow x h = some (0, h) := by
  unfold fX9_isRow fX9_isRow_0
  have := p_out_toInt (by decide) hx
  rw [p_inS False ⟨fun z => z.elim, fun z => by have z2 : x.toInt ≤ 5 := z.2; have z1 : 0 ≤ x.toInt := z.1; omega⟩]
  simp
theorem p_isText_in {h : gz_H} {k : Nat} (hk : k < 4) : fX9_isText (nI k) h = some (1, h) := by
  unfold fX9_isText fX9_isText_0
  rw [p_inS True ⟨fun _ => by rw [nI_toInt (by omega)]; exact ⟨by simp, by show (k : Int) ≤ 3; omega⟩, fun _ => trivial⟩]
  simp
theorem p_isText_out {h : gz_H} {x : Int32} (hx : p_out x 4) : fX9_isText x h = some (0, h) := by
  unfold fX9_isText fX9_isText_0
  have := p_out_toInt (by decide) hx
  rw [p_inS False ⟨fun z => z.elim, fun z => by have z2 : x.toInt ≤ 3 := z.2; have z1 : 0 ≤ x.toInt := z.1; omega⟩]
  simp
/-! THE INVARIANT, but for the flock -/
def gz_Rw (h : gz_H) : Prop := ∀ r, r < 6 → h.2.1 9 r = h.2.1 91 r ∧ (h.2.1 9 r = -1 ∨ ∃ n, n ≤ 40 ∧ h.2.1 9 r = nI n) ∧ ∀ k, k < 40 → h.2.1 (3 + r) k = h.2.1 92 (40 * r + k)
def gz_Tx (h : gz_H) : Prop := ∀ t, t < 4 → h.2.1 16 t = h.2.1 93 t ∧ (h.2.1 16 t = -1 ∨ ∃ n, n ≤ 80 ∧ h.2.1 16 t = nI n) ∧ ∀ k, k < 80 → h.2.1 (12 + t) k = h.2.1 94 (80 * t + k)
def gz_Sc (h : gz_H) : Prop := h.2.1 0 18 = h.2.1 85 11 ∧ h.2.1 18 1 = h.2.1 85 14 ∧ (∀ f, f < 6 → h.2.1 19 f = h.2.1 95 f) ∧ h.2.2.1 20 0 = h.2.2.1 85 12 ∧ h.2.2.1 20 1 = h.2.2.1 85 13
theorem gz_Rw.cg {h h' : gz_H} (H : gz_Rw h) (e : ∀ a k, (3 ≤ a ∧ a ≤ 9) ∨ a = 91 ∨ a = 92 → h'.2.1 a k = h.2.1 a k) : gz_Rw h' := by
  intro r hr
  obtain ⟨h1, h2, h3⟩ := H r hr
  rw [e 9 r (by omega), e 91 r (by omega)]
  exact ⟨h1, h2, fun k hk => by rw [e (3 + r) k (by omega), e 92 _ (by omega)]; exact h3 k hk⟩
theorem gz_Tx.cg {h h' : gz_H} (H : gz_Tx h) (e : ∀ a k, (12 ≤ a ∧ a ≤ 16) ∨ a = 93 ∨ a = 94 → h'.2.1 a k = h.2.1 a k) : gz_Tx h' := by
  intro r hr
  obtain ⟨h1, h2, h3⟩ := H r hr
  rw [e 16 r (by omega), e 93 r (by omega)]
  exact ⟨h1, h2, fun k hk => by rw [e (12 + r) k (by omega), e 94 _ (by omega)]; exact h3 k hk⟩
theorem gz_Sc.cg {h h' : gz_H} (H : gz_Sc h) (e : ∀ a k, (a = 0 ∧ k = 18) ∨ (a = 85 ∧ (k = 11 ∨ k = 14)) ∨ a = 18 ∨ a = 19 ∨ a = 95 → h'.2.1 a k = h.2.1 a k) (el : h'.2.2.1 = h.2.2.1) : gz_Sc h' := by
  obtain ⟨h1, h2, h3, h4, h5⟩ := H
  rw [gz_Sc, el, e 0 18 (by omega), e 85 11 (by omega), e 18 1 (by omega), e 85 14 (by omega)]
  exact ⟨h1, h2, fun f hf => by rw [e 19 f (by omega), e 95 f (by omega)]; exact h3 f hf, h4, h5⟩
theorem gz_Fx.cg {h h' : gz_H} (H : gz_Fx h) (e : ∀ a k, a = 1 ∨ a = 10 → h'.2.1 a k = h.2.1 a k) : gz_Fx h' := by
  rw [gz_Fx, e 1 0 (by omega), e 10 0 (by omega)]
  exact H
def gz_In (h : gz_H) : Prop := gz_La h ∧ gz_Fx h ∧ gz_Rw h ∧ gz_Tx h ∧ gz_Sc h
/-- the flock's own cells -/
def gz_ff (a k : Nat) : Prop := (25 ≤ a ∧ a ≤ 26) ∨ (28 ≤ a ∧ a ≤ 72) ∨ (79 ≤ a ∧ a ≤ 84) ∨ (86 ≤ a ∧ a ≤ 90) ∨ (a = 85 ∧ (k = 1 ∨ k = 3))
/-- a step that leaves the flock as it was -/
def gz_St (h h' : gz_H) : Prop := gz_In h' ∧ h'.2.2.2 = h.2.2.2 ∧ ∀ a k, gz_ff a k → h'.2.1 a k = h.2.1 a k
theorem gz_St.rf {h : gz_H} (I : gz_In h) : gz_St h h := ⟨I, rfl, fun _ _ _ => rfl⟩
theorem gz_xf_I {h : gz_H} {f : Nat} (a k : Nat) (h1 : a ≠ 18) (h2 : a ≠ 19) : (gz_xf h f).2.1 a k = h.2.1 a k := by
  unfold gz_xf
  rw [uI_I, if_neg (by omega), uI_I, if_neg (by omega)]
theorem gz_mf_I {h : gz_H} {f : Nat} (a k : Nat) (h1 : a ≠ 85 ∨ k ≠ 14) (h2 : a ≠ 95) : (gz_mf h f).2.1 a k = h.2.1 a k := by
  unfold gz_mf
  rw [uI_I, if_neg (by omega), uI_I, if_neg (by omega)]
theorem gz_xf_La {h : gz_H} {f : Nat} (H : gz_La h) : gz_La (gz_xf h f) := H.of rfl rfl
theorem st_find {h : gz_H} (I : gz_In h) {f : Nat} (hf : f < 6) : gz_St h (gz_mf (gz_xf h f) f) := by
  obtain ⟨H, F, Rw, Tx, Sc⟩ := I
  have off : ∀ a k, (a ≠ 85 ∨ k ≠ 14) → a ≠ 95 → a ≠ 18 → a ≠ 19 → (gz_mf (gz_xf h f) f).2.1 a k = h.2.1 a k := fun a k h1 h2 h3 h4 => by rw [gz_mf_I a k h1 h2, gz_xf_I a k h3 h4]
  refine ⟨⟨H.of rfl rfl, F.cg (fun a k ha => off a k (by omega) (by omega) (by omega) (by omega)), Rw.cg (fun a k ha => off a k (by omega) (by omega) (by omega) (by omega)), Tx.cg (fun a k ha => off a k (by omega) (by omega) (by omega) (by omega)), ?_⟩, rfl, fun a k ha => by unfold gz_ff at ha; exact off a k (by omega) (by omega) (by omega) (by omega)⟩
  obtain ⟨s1, s2, s3, s4, s5⟩ := Sc
  refine ⟨?_, ?_, fun g hg => ?_, s4, s5⟩
  · rw [off 0 18 (by omega) (by omega) (by omega) (by omega), off 85 11 (by omega) (by omega) (by omega) (by omega)]
    exact s1
  · rw [gz_mf_I 18 1 (by omega) (by omega)]
    unfold gz_mf gz_xf
    rw [uI_I, if_neg (by omega), uI_I, if_pos ⟨rfl, rfl⟩, uI_I, if_neg (by omega), uI_I, if_pos ⟨rfl, rfl⟩]
  · rw [gz_mf_I 19 g (by omega) (by omega)]
    unfold gz_mf gz_xf
    simp only [uI_I]
    by_cases e : g = f
    · subst e
      simp [s3 g hg]
    · simp [e, s3 g hg]
