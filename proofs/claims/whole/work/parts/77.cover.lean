/-! PURE: covers of a set by tellings -/
def sb (S U : Nat) : Prop := ∀ k, S.testBit k = true → U.testBit k = true
theorem sd_sb {S U : Nat} : sd S U = 0 ↔ sb S U := by
  constructor
  · intro e k hk
    have : (sd S U).testBit k = false := by rw [e]; exact Nat.zero_testBit k
    rw [sd_bit, hk, Bool.true_and] at this
    simpa using this
  · intro e
    apply bit_ext
    intro k
    rw [sd_bit, Nat.zero_testBit, Bool.and_eq_true]
    constructor
    · rintro ⟨q1, q2⟩
      rw [e k q1] at q2
      exact absurd q2 (by decide)
    · intro z; exact absurd z (by decide)
theorem sd_comm (S a b : Nat) : sd (sd S a) b = sd (sd S b) a := by
  apply bit_ext
  intro k
  rw [sd_bit, sd_bit, sd_bit, sd_bit, Bool.and_assoc, Bool.and_assoc, Bool.and_comm (!a.testBit k)]
theorem sd_sub (S t : Nat) : sb (sd S t) S := fun k hk => by
  rw [sd_bit, Bool.and_eq_true] at hk
  exact hk.1
theorem sd_mono {S U t : Nat} (h : sb S U) : sb (sd S t) (sd U t) := fun k hk => by
  rw [sd_bit, Bool.and_eq_true] at hk ⊢
  exact ⟨h k hk.1, hk.2⟩
def Cv (Tm : Nat → Prop) : Nat → Nat → Prop
  | 0, S => S = 0
  | n + 1, S => ∃ t, Tm t ∧ Cv Tm n (sd S t)
def Un (Tm : Nat → Prop) : Nat → Nat → Prop
  | 0, k => k = 0
  | n + 1, k => ∃ k' t, Un Tm n k' ∧ Tm t ∧ k = k' ||| t
section
variable {Tm : Nat → Prop}
theorem cv_pick {b : Nat} : ∀ {n S : Nat}, S.testBit b = true → Cv Tm n S → ∃ m t, n = m + 1 ∧ Tm t ∧ t.testBit b = true ∧ Cv Tm m (sd S t) := by
  intro n
  induction n with
  | zero =>
    intro S hb h
    have h : S = 0 := h
    rw [h, Nat.zero_testBit] at hb
    exact absurd hb (by decide)
  | succ n ih =>
    rintro S hb ⟨t, ht, hc⟩
    by_cases c : t.testBit b = true
    · exact ⟨n, t, rfl, ht, c, hc⟩
    · obtain ⟨m, t', e, ht', hb', hc'⟩ := ih (by rw [sd_bit, hb, Bool.true_and]; simpa using c) hc
      subst e
      exact ⟨m + 1, t', rfl, ht', hb', t, ht, by rw [sd_comm]; exact hc'⟩
theorem cv_small : ∀ {c S n : Nat}, S < 2 ^ c → Cv Tm n S → ∃ m, m ≤ c ∧ Cv Tm m S := by
  intro c
  induction c with
  | zero =>
    intro S n hS _
    exact ⟨0, Nat.le_refl _, by show S = 0; omega⟩
  | succ c ih =>
    intro S n hS h
    by_cases q : S.testBit c = true
    · obtain ⟨m, t, e, ht, hb, hc⟩ := cv_pick q h
      have lt : sd S t < 2 ^ c := bit_lt fun k hk => by
        rw [sd_bit, Bool.and_eq_true] at hk
        rcases Nat.lt_or_ge k c with z | z
        · exact z
        · rcases Nat.eq_or_lt_of_le z with y | y
          · rw [← y, hb] at hk
            exact absurd hk.2 (by decide)
          · have : S.testBit k = false := Nat.testBit_lt_two_pow (Nat.lt_of_lt_of_le hS (Nat.pow_le_pow_right (n := 2) (by decide) y))
            rw [this] at hk
            exact absurd hk.1 (by decide)
      obtain ⟨m', h1, h2⟩ := ih lt hc
      exact ⟨m' + 1, by omega, t, ht, h2⟩
    · have lt : S < 2 ^ c := bit_lt fun k hk => by
        rcases Nat.lt_or_ge k c with z | z
        · exact z
        · rcases Nat.eq_or_lt_of_le z with y | y
          · rw [← y] at hk
            exact absurd hk q
          · have : S.testBit k = false := Nat.testBit_lt_two_pow (Nat.lt_of_lt_of_le hS (Nat.pow_le_pow_right (n := 2) (by decide) y))
            rw [this] at hk
            exact absurd hk (by decide)
      obtain ⟨m', h1, h2⟩ := ih lt h
      exact ⟨m', by omega, h2⟩
theorem cv_un : ∀ {n S : Nat}, Cv Tm n S → ∃ U, Un Tm n U ∧ sb S U := by
  intro n
  induction n with
  | zero =>
    intro S h
    have h : S = 0 := h
    exact ⟨0, rfl, fun k hk => by rw [h] at hk; exact hk⟩
  | succ n ih =>
    rintro S ⟨t, ht, hc⟩
    obtain ⟨U, hU, s⟩ := ih hc
    refine ⟨U ||| t, ⟨U, t, hU, ht, rfl⟩, fun k hk => ?_⟩
    rw [Nat.testBit_or, Bool.or_eq_true]
    by_cases c : t.testBit k = true
    · exact Or.inr c
    · exact Or.inl (s k (by rw [sd_bit, hk, Bool.true_and]; simpa using c))
theorem un_cv : ∀ {n U S : Nat}, Un Tm n U → sb S U → Cv Tm n S := by
  intro n
  induction n with
  | zero =>
    intro U S h s
    have h : U = 0 := h
    show S = 0
    apply bit_ext
    intro k
    rw [Nat.zero_testBit]
    constructor
    · intro z
      have := s k z
      rw [h, Nat.zero_testBit] at this
      exact this
    · intro z; exact absurd z (by decide)
  | succ n ih =>
    rintro U S ⟨k', t, h1, h2, rfl⟩ s
    refine ⟨t, h2, ih h1 fun k hk => ?_⟩
    rw [sd_bit, Bool.and_eq_true] at hk
    have := s k hk.1
    rw [Nat.testBit_or, Bool.or_eq_true] at this
    rcases this with q | q
    · exact q
    · rw [q] at hk
      exact absurd hk.2 (by decide)
theorem un_lt {b : Nat} (hT : ∀ t, Tm t → t < 2 ^ b) : ∀ {n U : Nat}, Un Tm n U → U < 2 ^ b := by
  intro n
  induction n with
  | zero => intro U h; have h : U = 0 := h; rw [h]; exact Nat.two_pow_pos b
  | succ n ih =>
    rintro U ⟨k', t, h1, h2, rfl⟩
    exact Nat.or_lt_two_pow (ih h1) (hT t h2)
/-- the cost of a set -/
def CC (Tm : Nat → Prop) (c S : Nat) : Prop := c ≤ 1000 ∧ (c < 1000 → Cv Tm c S) ∧ ∀ n, Cv Tm n S → c ≤ n
theorem cc_zero : CC Tm 0 0 := ⟨by omega, fun _ => rfl, fun _ _ => Nat.zero_le _⟩
/-! relaxing -/
def r1 (t : Nat) (w : Nat → Nat) (k : Nat) : Nat → Nat := va_up w (k ||| t) (if w (k ||| t) ≤ w k + 1 then w (k ||| t) else w k + 1)
def rlx (t : Nat) (w : Nat → Nat) : Nat → Nat → Nat
  | 0 => w
  | k + 1 => r1 t (rlx t w k) k
def rs (tl : Nat → Nat) (K : Nat) (w : Nat → Nat) : Nat → Nat → Nat
  | 0 => w
  | s + 1 => if tl s = 0 then rs tl K w s else rlx (tl s) (rs tl K w s) K
def rr (tl : Nat → Nat) (K N : Nat) (w : Nat → Nat) : Nat → Nat → Nat
  | 0 => w
  | r + 1 => rs tl K (rr tl K N w r) N
def Sd (Tm : Nat → Prop) (w : Nat → Nat) : Prop := ∀ k, w k ≤ 99 ∧ (w k < 99 → Un Tm (w k) k)
theorem vu_at {w : Nat → Nat} {i x : Nat} : va_up w i x i = x := by simp [va_up]
theorem vu_ne {w : Nat → Nat} {i j x : Nat} (h : ¬ j = i) : va_up w i x j = w j := by simp [va_up, h]
theorem r1_sd {t k : Nat} {w : Nat → Nat} (ht : Tm t) (h : Sd Tm w) : Sd Tm (r1 t w k) := by
  intro j
  unfold r1
  by_cases e : j = k ||| t
  · rw [e, vu_at]
    by_cases c : w (k ||| t) ≤ w k + 1
    · rw [if_pos c]; exact h _
    · rw [if_neg c]
      have a := h (k ||| t)
      refine ⟨by omega, fun z => ⟨k, t, (h k).2 (by omega), ht, rfl⟩⟩
  · rw [vu_ne e]; exact h j
theorem r1_le {t k : Nat} {w : Nat → Nat} (j : Nat) : r1 t w k j ≤ w j := by
  unfold r1
  by_cases e : j = k ||| t
  · rw [e, vu_at]
    by_cases c : w (k ||| t) ≤ w k + 1
    · rw [if_pos c]; omega
    · rw [if_neg c]; omega
  · rw [vu_ne e]; omega
theorem r1_at {t k : Nat} {w : Nat → Nat} : r1 t w k (k ||| t) ≤ w k + 1 := by
  unfold r1
  rw [vu_at]
  by_cases c : w (k ||| t) ≤ w k + 1
  · rw [if_pos c]; exact c
  · rw [if_neg c]; omega
theorem rlx_sd {t : Nat} {w : Nat → Nat} (ht : Tm t) (h : Sd Tm w) : ∀ K, Sd Tm (rlx t w K)
  | 0 => h
  | K + 1 => r1_sd ht (rlx_sd ht h K)
theorem rlx_le {t : Nat} {w : Nat → Nat} (j : Nat) : ∀ K, rlx t w K j ≤ w j
  | 0 => Nat.le_refl _
  | K + 1 => Nat.le_trans (r1_le j) (rlx_le j K)
theorem rlx_at {t k : Nat} {w : Nat → Nat} : ∀ {K : Nat}, k < K → rlx t w K (k ||| t) ≤ w k + 1 := by
  intro K
  induction K with
  | zero => intro h; omega
  | succ K ih =>
    intro hk
    by_cases c : k = K
    · subst c
      have a := r1_at (t := t) (k := k) (w := rlx t w k)
      have b := rlx_le (t := t) (w := w) k k
      show r1 t (rlx t w k) k (k ||| t) ≤ w k + 1
      omega
    · exact Nat.le_trans (r1_le _) (ih (by omega))
theorem rs_sd {tl : Nat → Nat} {K : Nat} {w : Nat → Nat} (h : Sd Tm w) : ∀ {N : Nat}, (∀ s, s < N → tl s ≠ 0 → Tm (tl s)) → Sd Tm (rs tl K w N) := by
  intro N
  induction N with
  | zero => intro _; exact h
  | succ N ih =>
    intro ht
    rw [rs]
    by_cases c : tl N = 0
    · rw [if_pos c]; exact ih (fun s hs => ht s (by omega))
    · rw [if_neg c]; exact rlx_sd (ht N (by omega) c) (ih (fun s hs => ht s (by omega))) K
theorem rs_le {tl : Nat → Nat} {K : Nat} {w : Nat → Nat} (j : Nat) : ∀ N, rs tl K w N j ≤ w j := by
  intro N
  induction N with
  | zero => exact Nat.le_refl _
  | succ N ih =>
    rw [rs]
    by_cases c : tl N = 0
    · rw [if_pos c]; exact ih
    · rw [if_neg c]; exact Nat.le_trans (rlx_le j K) ih
theorem rs_at {tl : Nat → Nat} {K k s : Nat} {w : Nat → Nat} (hk : k < K) (hs : tl s ≠ 0) : ∀ {N : Nat}, s < N → rs tl K w N (k ||| tl s) ≤ w k + 1 := by
  intro N
  induction N with
  | zero => intro h; omega
  | succ N ih =>
    intro h
    rw [rs]
    by_cases c : s = N
    · subst c
      rw [if_neg hs]
      have a := rlx_at (t := tl s) (w := rs tl K w s) hk
      have b := rs_le (tl := tl) (K := K) (w := w) k s
      omega
    · by_cases d : tl N = 0
      · rw [if_pos d]; exact ih (by omega)
      · rw [if_neg d]; exact Nat.le_trans (rlx_le _ K) (ih (by omega))
theorem rr_sd {tl : Nat → Nat} {K N : Nat} {w : Nat → Nat} (h : Sd Tm w) (ht : ∀ s, s < N → tl s ≠ 0 → Tm (tl s)) : ∀ r, Sd Tm (rr tl K N w r)
  | 0 => h
  | r + 1 => rs_sd (rr_sd h ht r) ht
theorem rr_un {tl : Nat → Nat} {b N : Nat} {w : Nat → Nat} (h0 : w 0 = 0) (hT : ∀ t, Tm t → t < 2 ^ b ∧ ∃ s, s < N ∧ tl s = t ∧ t ≠ 0) : ∀ r n U, n ≤ r → Un Tm n U → rr tl (2 ^ b) N w r U ≤ n := by
  intro r
  induction r with
  | zero =>
    intro n U hn h
    have : n = 0 := by omega
    subst this
    have h : U = 0 := h
    rw [h]
    show w 0 ≤ 0
    omega
  | succ r ih =>
    intro n U hn h
    cases n with
    | zero =>
      have := ih 0 U (by omega) h
      exact Nat.le_trans (rs_le U N) this
    | succ n =>
      obtain ⟨k', t, h1, h2, rfl⟩ := h
      obtain ⟨q1, s, q2, q3, q4⟩ := hT t h2
      have a := ih n k' (by omega) h1
      have lt := un_lt (fun t ht => (hT t ht).1) h1
      rw [← q3] at q4 ⊢
      exact Nat.le_trans (rs_at lt q4 q2) (by omega)
/-- the least over what has all of S -/
def lsF (w : Nat → Nat) (S : Nat) : Nat → Nat
  | 0 => 99
  | k + 1 => if sd S k = 0 ∧ ¬ lsF w S k ≤ w k then w k else lsF w S k
theorem ls_le {w : Nat → Nat} {S : Nat} : ∀ k, lsF w S k ≤ 99
  | 0 => Nat.le_refl _
  | k + 1 => by
    have := ls_le (w := w) (S := S) k
    rw [lsF]
    by_cases c : sd S k = 0 ∧ ¬ lsF w S k ≤ w k
    · rw [if_pos c]; omega
    · rw [if_neg c]; exact this
theorem ls_at {w : Nat → Nat} {S j : Nat} (hj : sd S j = 0) : ∀ {k : Nat}, j < k → lsF w S k ≤ w j := by
  intro k
  induction k with
  | zero => intro h; omega
  | succ k ih =>
    intro h
    rw [lsF]
    by_cases e : j = k
    · subst e
      by_cases c : sd S j = 0 ∧ ¬ lsF w S j ≤ w j
      · rw [if_pos c]; omega
      · rw [if_neg c]
        rcases Nat.lt_or_ge (w j) (lsF w S j) with z | z
        · exact absurd ⟨hj, by omega⟩ c
        · exact z
    · have := ih (by omega)
      by_cases c : sd S k = 0 ∧ ¬ lsF w S k ≤ w k
      · rw [if_pos c]; omega
      · rw [if_neg c]; exact this
theorem ls_ex {w : Nat → Nat} {S : Nat} : ∀ {k : Nat}, lsF w S k < 99 → ∃ j, j < k ∧ sd S j = 0 ∧ w j = lsF w S k := by
  intro k
  induction k with
  | zero => intro h; exact absurd h (Nat.lt_irrefl 99)
  | succ k ih =>
    intro h
    rw [lsF] at h ⊢
    by_cases c : sd S k = 0 ∧ ¬ lsF w S k ≤ w k
    · rw [if_pos c] at h ⊢
      exact ⟨k, by omega, c.1, rfl⟩
    · rw [if_neg c] at h ⊢
      obtain ⟨j, q1, q2, q3⟩ := ih h
      exact ⟨j, by omega, q2, q3⟩
/-- the two ways agree -/
theorem least_eq {tl : Nat → Nat} {b N S c : Nat} {w : Nat → Nat} (hb : b ≤ 8) (hS : S < 2 ^ b) (h0 : w 0 = 0) (hw : ∀ k, k ≠ 0 → w k = 99) (hT : ∀ t, Tm t ↔ t ≠ 0 ∧ ∃ s, s < N ∧ tl s = t) (tb : ∀ s, s < N → tl s < 2 ^ b) (hc : CC Tm c S) : (c < 1000 ∧ lsF (rr tl (2 ^ b) N w 8) S (2 ^ b) = c ∧ c ≤ 8) ∨ (1000 ≤ c ∧ lsF (rr tl (2 ^ b) N w 8) S (2 ^ b) = 99) := by
  have sd0 : Sd Tm w := fun k => by
    by_cases e : k = 0
    · rw [e, h0]; exact ⟨by omega, fun _ => rfl⟩
    · rw [hw k e]; exact ⟨Nat.le_refl _, fun z => absurd z (by omega)⟩
  have sd8 := rr_sd (K := 2 ^ b) (N := N) sd0 (fun s hs z => (hT _).mpr ⟨z, s, hs, rfl⟩) 8
  have un8 := rr_un (b := b) (N := N) h0 (fun t ht => by
    obtain ⟨q1, s, q2, q3⟩ := (hT t).mp ht
    exact ⟨by rw [← q3]; exact tb s q2, s, q2, q3, q1⟩) 8
  have lt8 : ∀ t, Tm t → t < 2 ^ b := fun t ht => by
    obtain ⟨q1, s, q2, q3⟩ := (hT t).mp ht
    rw [← q3]; exact tb s q2
  have snd : lsF (rr tl (2 ^ b) N w 8) S (2 ^ b) < 99 → Cv Tm (lsF (rr tl (2 ^ b) N w 8) S (2 ^ b)) S := fun z => by
    obtain ⟨j, q1, q2, q3⟩ := ls_ex z
    have := (sd8 j).2 (by omega)
    rw [q3] at this
    exact un_cv this (sd_sb.mp q2)
  have l99 := ls_le (w := rr tl (2 ^ b) N w 8) (S := S) (2 ^ b)
  obtain ⟨c1, c2, c3⟩ := hc
  rcases Nat.lt_or_ge c 1000 with q | q
  · have cv := c2 q
    obtain ⟨m, m1, m2⟩ := cv_small hS cv
    have c8 := c3 m m2
    obtain ⟨U, u1, u2⟩ := cv_un cv
    have := ls_at (w := rr tl (2 ^ b) N w 8) (sd_sb.mpr u2) (un_lt lt8 u1)
    have a := un8 c U (by omega) u1
    have z := c3 _ (snd (by omega))
    exact Or.inl ⟨q, by omega, by omega⟩
  · refine Or.inr ⟨q, ?_⟩
    rcases Nat.lt_or_ge (lsF (rr tl (2 ^ b) N w 8) S (2 ^ b)) 99 with z | z
    · have := c3 _ (snd z)
      omega
    · omega
end
