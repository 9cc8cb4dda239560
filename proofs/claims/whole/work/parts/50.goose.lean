/-! PURE: a goose of the class -/
/-- only goose g changed: how many it holds, and its facts -/
def fr2 (h h' : gz_H) (g : Nat) : Prop := h'.1 = h.1 ∧ h'.2.2 = h.2.2 ∧ (∀ a k, a ≠ g → a ≠ g + 1 → h'.2.1 a k = h.2.1 a k) ∧ ∀ k, k ≠ 1 → h'.2.1 g k = h.2.1 g k
theorem fr2.rf {h : gz_H} {g : Nat} : fr2 h h g := ⟨rfl, rfl, fun _ _ _ _ => rfl, fun _ _ => rfl⟩
theorem fr2.tr {h h1 h2 : gz_H} {g : Nat} (a : fr2 h h1 g) (b : fr2 h1 h2 g) : fr2 h h2 g := ⟨b.1.trans a.1, b.2.1.trans a.2.1, fun x k h1 h2 => (b.2.2.1 x k h1 h2).trans (a.2.2.1 x k h1 h2), fun k hk => (b.2.2.2 k hk).trans (a.2.2.2 k hk)⟩
theorem ld_app {a b : List Nat} {x : Nat} : (a ++ x :: b).getD a.length 0 = x := by simp [List.getD]
theorem ld_lt {a b : List Nat} {k : Nat} (h : k < a.length) : (a ++ b).getD k 0 = a.getD k 0 := by simp [List.getD, List.getElem?_append_left h]
theorem ld_ge {a b : List Nat} {k : Nat} (h : a.length ≤ k) : (a ++ b).getD k 0 = b.getD (k - a.length) 0 := by simp [List.getD, List.getElem?_append_right h]
theorem ld_mem {l : List Nat} {k : Nat} (h : k < l.length) : l.getD k 0 ∈ l := by
  rw [List.getD_eq_getElem?_getD, List.getElem?_eq_getElem h]
  exact List.getElem_mem h
section
variable {h : gz_H} {g : Nat} {l : List Nat}
theorem x_pio2 (V : gv h g l) (hb : ∀ x ∈ l, x < 8) {f : Nat} (hf : f < 8) : ∀ (m i : Nat), i ≤ l.length → l.length < i + m → (∀ k, k < i → l.getD k 0 ≠ f) → (f ∉ l → fX2_placeInOrder_2 m g (nI f) (nI i) h = some (-9, h)) ∧ (∀ a b, l = a ++ f :: b → f ∉ a → fX2_placeInOrder_2 m g (nI f) (nI i) h = some (nI a.length, h)) := by
  obtain ⟨v1, v2, v3, v4, v5, v6⟩ := V
  intro m
  induction m with
  | zero => intro i h1 h2; omega
  | succ m ih =>
    intro i h1 h2 h3
    rw [fX2_placeInOrder_2, ck_t (sh_t v1), v5]
    by_cases e : i = l.length
    · rw [if_pos (nI_le (by omega) (by omega))]
      refine ⟨fun _ => rfl, fun a b e1 e2 => ?_⟩
      exfalso
      have hlen : l.length = a.length + (b.length + 1) := by rw [e1]; simp
      refine h3 a.length (by omega) ?_
      rw [e1]
      exact ld_app
    · rw [if_neg (nI_ge (by omega) (by omega)), v3, br_s, ck_t (inb_nI v2 (by omega) (by decide)), nI_clamp (by omega), v6 i (by omega)]
      have hx := hb _ (ld_mem (l := l) (k := i) (by omega))
      by_cases e2 : l.getD i 0 = f
      · rw [if_pos (by rw [e2])]
        refine ⟨fun hn => absurd (by rw [← e2]; exact ld_mem (by omega)) hn, fun a b e3 e4 => ?_⟩
        have hia : i = a.length := by
          rcases Nat.lt_trichotomy i a.length with q | q | q
          · exfalso
            apply e4
            rw [← e2, e3, ld_lt q]
            exact ld_mem q
          · exact q
          · exact absurd (by rw [e3]; exact ld_app) (h3 a.length q)
        rw [hia]
      · have hne : ¬ nI (l.getD i 0) = nI f := fun z => e2 ((nI_eq (by omega) (by omega)).mp z)
        rw [if_neg hne, nI_1]
        exact ih (i + 1) (by omega) (by omega) (fun k hk => by
          rcases Nat.lt_or_ge k i with q | q
          · exact h3 k q
          · rw [show k = i by omega]; exact e2)
theorem x_pio_no (V : gv h g l) (hb : ∀ x ∈ l, x < 8) {f : Nat} (hf : f < 8) (hn : f ∉ l) : fX2_placeInOrder g (nI f) h = some (-9, h) :=
  (x_pio2 V hb hf gz_fu 0 (by omega) (by show l.length < 0 + 100000; have := V.2.2.2.1; omega) (fun k hk => absurd hk (by omega))).1 hn
theorem x_pio_at (V : gv h g l) (hb : ∀ x ∈ l, x < 8) {f : Nat} (hf : f < 8) {a b : List Nat} (e : l = a ++ f :: b) (hn : f ∉ a) : fX2_placeInOrder g (nI f) h = some (nI a.length, h) :=
  (x_pio2 V hb hf gz_fu 0 (by omega) (by show l.length < 0 + 100000; have := V.2.2.2.1; omega) (fun k hk => absurd hk (by omega))).2 a b e hn
theorem x_hasFact (V : gv h g l) (hb : ∀ x ∈ l, x < 8) {f : Nat} (hf : f < 8) : fX2_hasFact g (nI f) h = some (if f ∈ l then 1 else 0, h) := by
  unfold fX2_hasFact fX2_hasFact_0
  rw [ck_t (sh_t V.1)]
  by_cases e : f ∈ l
  · obtain ⟨a, b, e1, e2⟩ := List.eq_append_cons_of_mem e
    rw [x_pio_at V hb hf e1 e2, b2_s, if_neg, if_pos e]
    intro z
    have h1 := congrArg Int32.toInt z
    have : a.length < 8 := by
      have := V.2.2.2.1
      rw [e1] at this
      simp at this
      omega
    rw [nI_toInt (by omega)] at h1
    have h2 : (-9 : Int32).toInt = -9 := rfl
    omega
  · rw [x_pio_no V hb hf e, b2_s, if_pos rfl, if_neg e]
theorem x_isFilled (V : gv h g l) {mo : Nat} (hm : h.2.1 g 3 = nI mo) (hmo : mo ≤ 8) : fX2_isFilled g h = some (if mo ≤ l.length then 1 else 0, h) := by
  unfold fX2_isFilled fX2_isFilled_0
  have := V.2.2.2.1
  rw [ck_t (sh_t V.1), V.2.2.2.2.1, hm]
  by_cases e : mo ≤ l.length
  · rw [if_neg (nI_nlt e (by omega)), if_pos e]
  · rw [if_pos (nI_lt (by omega) (by omega)), if_neg e]
theorem x_newest_no (V : gv h g l) (e : l = []) : fX2_newest g h = some (-9, h) := by
  unfold fX2_newest fX2_newest_0
  rw [ck_t (sh_t V.1), V.2.2.2.2.1, e, if_pos (by decide)]
theorem x_newest_at (V : gv h g l) {a : List Nat} {f : Nat} (e : l = a ++ [f]) : fX2_newest g h = some (nI f, h) := by
  obtain ⟨v1, v2, v3, v4, v5, v6⟩ := V
  have hl : l.length = a.length + 1 := by rw [e]; simp
  unfold fX2_newest fX2_newest_0
  rw [ck_t (sh_t v1), v5, if_neg (nI_nle (by omega) (by omega)), v3, br_s, hl, nI_pred, ck_t (inb_nI v2 (by omega) (by decide)), nI_clamp (by omega), v6 a.length (by omega), e, ld_app]
theorem x_oldest_no (V : gv h g l) (e : l = []) : fX2_oldest g h = some (-9, h) := by
  unfold fX2_oldest fX2_oldest_0
  rw [ck_t (sh_t V.1), V.2.2.2.2.1, e, if_pos (by decide)]
theorem x_oldest_at (V : gv h g l) {a : List Nat} {f : Nat} (e : l = f :: a) : fX2_oldest g h = some (nI f, h) := by
  obtain ⟨v1, v2, v3, v4, v5, v6⟩ := V
  have hl : l.length = a.length + 1 := by rw [e]; simp
  unfold fX2_oldest fX2_oldest_0
  rw [ck_t (sh_t v1), v5, if_neg (nI_nle (by omega) (by omega)), v3, br_s, show (0 : Int32) = nI 0 from rfl, ck_t (inb_nI v2 (by omega) (by decide)), nI_clamp (by omega), v6 0 (by omega), e]
  rfl
theorem x_rm15 {n : Nat} (hn : n ≤ 8) (h0 : 0 < n) : ∀ (m k : Nat) (h : gz_H), h.1[g]? = some (2, 6) → h.1[g + 1]? = some (10, 8) → h.2.2.2 g 0 = some (g + 1) → h.2.1 g 1 = nI n → k < n → n ≤ k + m → fX2_removeAt_15 m g (nI k) h = some ((), uI (uF h (g + 1) (fun p => if k ≤ p ∧ p + 1 < n then h.2.1 (g + 1) (p + 1) else h.2.1 (g + 1) p)) g 1 (nI (n - 1))) := by
  intro m
  induction m with
  | zero => intro k h v1 v2 v3 v5 h1 h2; omega
  | succ m ih =>
    intro k h v1 v2 v3 v5 h1 h2
    rw [fX2_removeAt_15, ck_t (sh_t v1), v5, nI_1]
    by_cases e : k + 1 = n
    · rw [if_pos (nI_le (by omega) (by omega)), lt_d, show (1 : Int32) = nI 1 from rfl, pk_sub (by omega)]
      refine congrArg some (congrArg (Prod.mk ()) ?_)
      have e1 : uF h (g + 1) (fun p => if k ≤ p ∧ p + 1 < n then h.2.1 (g + 1) (p + 1) else h.2.1 (g + 1) p) = h := by
        refine (uF_cg fun p => ?_).trans (uF_self (h := h) (a := g + 1))
        rw [if_neg (by omega)]
      rw [e1]
    · have e2 : (uI h (g + 1) k (h.2.1 (g + 1) (k + 1))).2.1 g 1 = nI n := by rw [uI_I, if_neg (by omega)]; exact v5
      rw [if_neg (nI_ge (by omega) (by omega)), v3, br_s, ck_t (inb_nI v2 (by omega) (by decide)), ck_t (inb_nI v2 (by omega) (by decide)), nI_clamp (by omega), nI_clamp (by omega), lt_d, ih (k + 1) (uI h (g + 1) k (h.2.1 (g + 1) (k + 1))) v1 v2 v3 e2 (by omega) (by omega), uF_uI]
      refine congrArg some (congrArg (Prod.mk ()) (congrArg (fun z => uI z g 1 (nI (n - 1))) (uF_cg fun p => ?_)))
      rw [uI_I, uI_I]
      by_cases c1 : p = k
      · subst c1
        rw [if_neg (by omega), if_pos ⟨rfl, rfl⟩, if_pos (by omega)]
      · have c2 : ¬ (g + 1 = g + 1 ∧ p = k) := fun z => c1 z.2
        rw [if_neg c2]
        by_cases c3 : k + 1 ≤ p ∧ p + 1 < n
        · rw [if_pos c3, if_neg (show ¬ (g + 1 = g + 1 ∧ p + 1 = k) from by omega), if_pos (by omega)]
        · rw [if_neg c3, if_neg (by omega)]
theorem x_removeAt (V : gv h g l) {a b : List Nat} {x : Nat} (e : l = a ++ x :: b) : ∃ h', fX2_removeAt g (nI a.length) h = some ((), h') ∧ gv h' g (a ++ b) ∧ fr2 h h' g := by
  obtain ⟨v1, v2, v3, v4, v5, v6⟩ := V
  have hl : l.length = a.length + (b.length + 1) := by rw [e]; simp
  refine ⟨uI (uF h (g + 1) (fun p => if a.length ≤ p ∧ p + 1 < l.length then h.2.1 (g + 1) (p + 1) else h.2.1 (g + 1) p)) g 1 (nI (l.length - 1)), ?_, ⟨v1, v2, v3, by simp; omega, ?_, fun k hk => ?_⟩, rfl, rfl, fun y k h1 h2 => by rw [uI_I, if_neg (by omega), uF_I, if_neg h2], fun k hk => by rw [uI_I, if_neg (by omega), uF_I, if_neg (by omega)]⟩
  · unfold fX2_removeAt fX2_removeAt_0
    rw [if_neg (nI_pos (by omega)), ck_t (sh_t v1), v5, if_pos (nI_lt (by omega) (by omega))]
    exact x_rm15 v4 (by omega) gz_fu a.length h v1 v2 v3 v5 (by omega) (by show l.length ≤ a.length + 100000; omega)
  · rw [uI_I, if_pos ⟨rfl, rfl⟩]
    congr 1
    simp
    omega
  · have hk2 : k < a.length + b.length := by simpa using hk
    rw [uI_I, if_neg (by omega), uF_I, if_pos rfl]
    by_cases c : a.length ≤ k ∧ k + 1 < l.length
    · rw [if_pos c, v6 (k + 1) (by omega), e, ld_ge (by omega), ld_ge c.1, show k + 1 - a.length = (k - a.length) + 1 by omega]
      rfl
    · rw [if_neg c, v6 k (by omega), e, ld_lt (show k < a.length by omega), ld_lt (show k < a.length by omega)]
theorem x_tk40 (V : gv h g l) (hl : l.length < 8) (f : Nat) (y : Int32) : ∃ h', fX2_take_40 g (nI f) y h = some (y, h') ∧ gv h' g (l ++ [f]) ∧ fr2 h h' g := by
  obtain ⟨v1, v2, v3, v4, v5, v6⟩ := V
  refine ⟨uI (uI h g 1 (nI (l.length + 1))) (g + 1) l.length (nI f), ?_, ⟨v1, v2, v3, by simp; omega, ?_, fun k hk => ?_⟩, rfl, rfl, fun y k h1 h2 => by rw [uI_I, if_neg (by omega), uI_I, if_neg (by omega)], fun k hk => by rw [uI_I, if_neg (by omega), uI_I, if_neg (by omega)]⟩
  · unfold fX2_take_40
    rw [ck_t (sh_t v1), v5, if_neg (show ¬ (8 : Int32) ≤ nI l.length from nI_ge (b := 8) hl (by decide)), v3, br_s, lt_d, inb_uI, ck_t (inb_nI v2 hl (by decide)), nI_clamp (by omega), lt_d, nI_1]
  · rw [uI_I, if_neg (by omega), uI_I, if_pos ⟨rfl, rfl⟩]
    simp
  · have hk2 : k < l.length + 1 := by simpa using hk
    rw [uI_I]
    by_cases c : k = l.length
    · rw [if_pos ⟨rfl, c⟩, c, ld_app]
    · rw [if_neg (fun z => c z.2), uI_I, if_neg (by omega), v6 k (by omega), ld_lt (by omega)]
theorem tk_at {mo f : Nat} {a b : List Nat} (hn : f ∉ a) : tk mo (a ++ f :: b) f = a ++ b ++ [f] := by
  unfold tk
  rw [if_pos (by simp), List.erase_append_right _ hn]
  simp
theorem tk_full {mo f x : Nat} {b : List Nat} (hn : f ∉ x :: b) (hm : mo ≤ b.length + 1) : tk mo (x :: b) f = b ++ [f] := by
  unfold tk
  rw [if_neg hn, if_pos (by simpa using hm)]
  rfl
theorem tk_add {mo f : Nat} {l : List Nat} (hn : f ∉ l) (hm : ¬ mo ≤ l.length) : tk mo l f = l ++ [f] := by
  unfold tk
  rw [if_neg hn, if_neg hm]
/-- what falls out -/
def tkA (mo : Nat) (l : List Nat) (f : Nat) : Int32 := if f ∈ l then -9 else if mo ≤ l.length then nI (l.getD 0 0) else -9
theorem x_take (V : gv h g l) (hb : ∀ x ∈ l, x < 8) {mo : Nat} (hm : h.2.1 g 3 = nI mo) (h1 : 1 ≤ mo) (hmo : mo ≤ 8) (hlm : l.length ≤ mo) {f : Nat} (hf : f < 8) : ∃ h', fX2_take g (nI f) h = some (tkA mo l f, h') ∧ gv h' g (tk mo l f) ∧ fr2 h h' g := by
  unfold fX2_take fX2_take_0
  rw [ck_t (sh_t V.1)]
  by_cases e : f ∈ l
  · obtain ⟨a, b, e1, e2⟩ := List.eq_append_cons_of_mem e
    have hal : a.length < 8 := by
      have := V.2.2.2.1
      rw [e1] at this
      simp at this
      omega
    rw [x_pio_at V hb hf e1 e2, b2_s, if_neg, ck_t (sh_t V.1)]
    · obtain ⟨h1, k1, k2, k3⟩ := x_removeAt V e1
      have hab : (a ++ b).length < 8 := by
        have := V.2.2.2.1
        rw [e1] at this
        simp at this ⊢
        omega
      obtain ⟨h2, k4, k5, k6⟩ := x_tk40 k2 hab f (-9)
      rw [k1, b2_s, k4]
      refine ⟨h2, ?_, ?_, k3.tr k6⟩
      · unfold tkA
        rw [if_pos e]
      · rw [e1, tk_at e2]
        exact k5
    · intro z
      have q1 := congrArg Int32.toInt z
      rw [nI_toInt (by omega)] at q1
      have q2 : (-9 : Int32).toInt = -9 := rfl
      omega
  · rw [x_pio_no V hb hf e, b2_s, if_pos rfl, ck_t (sh_t V.1), x_isFilled V hm hmo, b2_s]
    by_cases c : mo ≤ l.length
    · have c0 : ¬ ((1 : Int32) = 0) := by decide
      rw [if_pos c, if_neg c0, ck_t (sh_t V.1)]
      cases hl : l with
      | nil => rw [hl] at c; simp at c; omega
      | cons x b =>
        rw [x_oldest_at V hl, b2_s, ck_t (sh_t V.1)]
        obtain ⟨h1, k1, k2, k3⟩ := x_removeAt V (a := []) (x := x) (b := b) hl
        have hbl : b.length < 8 := by
          have := V.2.2.2.1
          rw [hl] at this
          simp at this
          omega
        obtain ⟨h2, k4, k5, k6⟩ := x_tk40 k2 hbl f (nI x)
        have k1' : fX2_removeAt g (0 : Int32) h = some ((), h1) := k1
        rw [k1', b2_s, k4]
        refine ⟨h2, ?_, ?_, k3.tr k6⟩
        · unfold tkA
          rw [← hl, if_neg e, if_pos c, hl]
          rfl
        · rw [hl] at e c
          rw [tk_full e (by simpa using c)]
          exact k5
    · rw [if_neg c, if_pos rfl]
      obtain ⟨h2, k4, k5, k6⟩ := x_tk40 V (by omega) f (-9)
      rw [k4]
      refine ⟨h2, ?_, ?_, k6⟩
      · unfold tkA
        rw [if_neg e, if_neg c]
      · rw [tk_add e c]
        exact k5
/-- the newest fact as an answer -/
def nw (l : List Nat) : Int32 := match l.getLast? with
  | some f => nI f
  | none => -9
theorem x_newest (V : gv h g l) : fX2_newest g h = some (nw l, h) := by
  rcases List.eq_nil_or_concat l with e | ⟨a, f, e⟩
  · rw [x_newest_no V e, e]
    rfl
  · rw [List.concat_eq_append] at e
    rw [x_newest_at V e, e]
    unfold nw
    simp
theorem x_lose (V : gv h g l) : ∃ h', fX2_loseNewest g h = some (nw l, h') ∧ gv h' g l.dropLast ∧ fr2 h h' g := by
  have V0 := V
  obtain ⟨v1, v2, v3, v4, v5, v6⟩ := V
  unfold fX2_loseNewest fX2_loseNewest_0
  rw [ck_t (sh_t v1), x_newest V0, b2_s, ck_t (sh_t v1), v5]
  by_cases e : l = []
  · refine ⟨h, ?_, ?_, fr2.rf⟩
    · rw [e, if_pos (by decide)]
    · rw [e] at V0 ⊢
      exact V0
  · have hpos : 0 < l.length := List.length_pos_iff.mpr e
    refine ⟨uI h g 1 (nI (l.length - 1)), ?_, ⟨v1, v2, v3, by simp; omega, ?_, fun k hk => ?_⟩, rfl, rfl, fun y k h1 h2 => by rw [uI_I, if_neg (by omega)], fun k hk => by rw [uI_I, if_neg (by omega)]⟩
    · rw [if_neg (nI_nle hpos (by omega)), lt_d, show (1 : Int32) = nI 1 from rfl, pk_sub (by omega)]
    · rw [uI_I, if_pos ⟨rfl, rfl⟩]
      simp
    · have hk2 : k < l.length - 1 := by simpa using hk
      rw [uI_I, if_neg (by omega), v6 k (by omega)]
      congr 1
      rw [List.getD_eq_getElem?_getD, List.getD_eq_getElem?_getD, List.getElem?_dropLast, if_pos hk2]
end
