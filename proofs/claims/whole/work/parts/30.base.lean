/-! PURE: the heap's words, numbers, the layout -/
theorem ck_t {α : Type} {b : Bool} {t : Option α} (hb : b = true) : gz_ck b t = t := by rw [hb]; rfl
theorem ck_1 {α : Type} {t : Option α} : gz_ck true t = t := rfl
theorem sh_t {h : gz_H} {a ci N : Nat} (e : h.1[a]? = some (ci, N)) : gz_sh h a ci N = true := decide_eq_true e
theorem sh_uI {h : gz_H} {b k a ci N : Nat} {v : Int32} : gz_sh (uI h b k v) a ci N = gz_sh h a ci N := rfl
theorem sh_uF {h : gz_H} {b a ci N : Nat} {f : Nat → Int32} : gz_sh (uF h b f) a ci N = gz_sh h a ci N := rfl
theorem sh_uL {h : gz_H} {b k a ci N : Nat} {v : Int64} : gz_sh (uL h b k v) a ci N = gz_sh h a ci N := rfl
theorem sh_uR {h : gz_H} {b k a ci N : Nat} {v : Option Nat} : gz_sh (uR h b k v) a ci N = gz_sh h a ci N := rfl
theorem bo_0 : gz_bo 0 = true := rfl
theorem bo_1 : gz_bo 1 = true := rfl
theorem b2_s {α β : Type} {r : α} {h : gz_H} {f : α → gz_H → Option β} : gz_b2 (some (r, h)) f = f r h := rfl
theorem br_s {β : Type} {r : Nat} {f : Nat → Option β} : gz_br (some r) f = f r := rfl
theorem bi_s {β : Type} {r : Int32} {f : Int32 → Option β} : gz_bi (some r) f = f r := rfl
theorem lt_d {α β : Type} {x : α} {f : α → β} : gz_lt x f = f x := rfl
theorem uI_1 {h : gz_H} {a k : Nat} {v : Int32} : (uI h a k v).1 = h.1 := rfl
theorem uI_L {h : gz_H} {a k : Nat} {v : Int32} : (uI h a k v).2.2.1 = h.2.2.1 := rfl
theorem uI_R {h : gz_H} {a k : Nat} {v : Int32} : (uI h a k v).2.2.2 = h.2.2.2 := rfl
theorem uF_1 {h : gz_H} {a : Nat} {f : Nat → Int32} : (uF h a f).1 = h.1 := rfl
theorem uF_L {h : gz_H} {a : Nat} {f : Nat → Int32} : (uF h a f).2.2.1 = h.2.2.1 := rfl
theorem uF_R {h : gz_H} {a : Nat} {f : Nat → Int32} : (uF h a f).2.2.2 = h.2.2.2 := rfl
theorem uL_1 {h : gz_H} {a k : Nat} {v : Int64} : (uL h a k v).1 = h.1 := rfl
theorem uL_I {h : gz_H} {a k : Nat} {v : Int64} : (uL h a k v).2.1 = h.2.1 := rfl
theorem uL_R {h : gz_H} {a k : Nat} {v : Int64} : (uL h a k v).2.2.2 = h.2.2.2 := rfl
theorem uR_1 {h : gz_H} {a k : Nat} {v : Option Nat} : (uR h a k v).1 = h.1 := rfl
theorem uR_I {h : gz_H} {a k : Nat} {v : Option Nat} : (uR h a k v).2.1 = h.2.1 := rfl
theorem uR_L {h : gz_H} {a k : Nat} {v : Option Nat} : (uR h a k v).2.2.1 = h.2.2.1 := rfl
theorem uI_I {h : gz_H} {a k : Nat} {v : Int32} (b j : Nat) : (uI h a k v).2.1 b j = if b = a ∧ j = k then v else h.2.1 b j := by
  by_cases e : b = a
  · subst e
    simp [uI, va_up, upd]
  · simp [uI, va_up, e]
theorem uL_LL {h : gz_H} {a k : Nat} {v : Int64} (b j : Nat) : (uL h a k v).2.2.1 b j = if b = a ∧ j = k then v else h.2.2.1 b j := by
  by_cases e : b = a
  · subst e
    simp [uL, va_up, vp_updL]
  · simp [uL, va_up, e]
theorem uR_RR {h : gz_H} {a k : Nat} {v : Option Nat} (b j : Nat) : (uR h a k v).2.2.2 b j = if b = a ∧ j = k then v else h.2.2.2 b j := by
  by_cases e : b = a
  · subst e
    simp [uR, va_up]
  · simp [uR, va_up, e]
theorem uF_I {h : gz_H} {a : Nat} {f : Nat → Int32} (b j : Nat) : (uF h a f).2.1 b j = if b = a then f j else h.2.1 b j := by
  by_cases e : b = a
  · subst e
    simp [uF, va_up]
  · simp [uF, va_up, e]
theorem uF_self {h : gz_H} {a : Nat} : uF h a (h.2.1 a) = h := by
  obtain ⟨s, I, L, R⟩ := h
  show (s, va_up I a (I a), L, R) = (s, I, L, R)
  have : va_up I a (I a) = I := by
    funext j
    by_cases e : j = a
    · subst e; simp [va_up]
    · simp [va_up, e]
  rw [this]
theorem uF_uI {h : gz_H} {a k : Nat} {v : Int32} {f : Nat → Int32} : uF (uI h a k v) a f = uF h a f := by
  obtain ⟨s, I, L, R⟩ := h
  show (s, va_up (va_up I a _) a f, L, R) = (s, va_up I a f, L, R)
  rw [bx_uu]
theorem uI_eq {h : gz_H} {a k : Nat} {v : Int32} : uI h a k v = uF h a (upd (h.2.1 a) k v) := rfl
theorem uF_uF {h : gz_H} {a : Nat} {f g : Nat → Int32} : uF (uF h a f) a g = uF h a g := by
  obtain ⟨s, I, L, R⟩ := h
  show (s, va_up (va_up I a _) a g, L, R) = (s, va_up I a g, L, R)
  rw [bx_uu]
theorem uF_cg {h : gz_H} {a : Nat} {f g : Nat → Int32} (e : ∀ k, f k = g k) : uF h a f = uF h a g := by rw [funext e]
theorem inb_nI {h : gz_H} {a k n j : Nat} (e : h.1[a]? = some (k, n)) (hj : j < n) (hn : n < 2 ^ 31) : gz_inb h a k (nI j) = true :=
  gz_inb_of e (nI_pos (by omega)) (by rw [nI_clamp (by omega)]; exact hj)
theorem inb_1 {h h' : gz_H} {a k : Nat} {i : Int32} (e : h'.1 = h.1) : gz_inb h' a k i = gz_inb h a k i := by unfold gz_inb; rw [e]
theorem len_s {h : gz_H} {a k n : Nat} (e : h.1[a]? = some (k, n)) (hk : 10 ≤ k ∧ k ≤ 13) : gz_len h a = some (nI n) := by
  unfold gz_len
  rw [e]
  exact if_pos hk
theorem inb_uI {h : gz_H} {a k b j : Nat} {v i : Int32} : gz_inb (uI h a k v) b j i = gz_inb h b j i := rfl
theorem inb_uF {h : gz_H} {a b j : Nat} {f : Nat → Int32} {i : Int32} : gz_inb (uF h a f) b j i = gz_inb h b j i := rfl
theorem inb_uL {h : gz_H} {a k b j : Nat} {v : Int64} {i : Int32} : gz_inb (uL h a k v) b j i = gz_inb h b j i := rfl
theorem inb_uR {h : gz_H} {a k b j : Nat} {v : Option Nat} {i : Int32} : gz_inb (uR h a k v) b j i = gz_inb h b j i := rfl
theorem len_uI {h : gz_H} {a k b : Nat} {v : Int32} : gz_len (uI h a k v) b = gz_len h b := rfl
theorem len_uF {h : gz_H} {a b : Nat} {f : Nat → Int32} : gz_len (uF h a f) b = gz_len h b := rfl
/-! numbers -/
theorem n_of (x : Int32) (n : Nat) (hn : n < 2 ^ 31) : x < 0 ∨ nI n ≤ x ∨ ∃ j : Nat, j < n ∧ x = nI j := pk_ix x hn
theorem l_of (x : Int32) : x.toInt64.toInt = x.toInt := by simp
theorem cmp_lt (x y : Int64) : lg_cmp x y < 0 ↔ x < y := by
  unfold lg_cmp
  by_cases h1 : x > y
  · rw [if_pos h1]
    constructor
    · intro h; exact absurd h (by decide)
    · intro h; exact absurd h (by simp only [gt_iff_lt, Int64.lt_iff_toInt_lt] at *; omega)
  · rw [if_neg h1]
    by_cases h2 : x = y
    · rw [if_pos h2]
      constructor
      · intro h; exact absurd h (by decide)
      · intro h; subst h2; exact absurd h (by simp only [Int64.lt_iff_toInt_lt] at *; omega)
    · rw [if_neg h2]
      constructor
      · intro _
        simp only [gt_iff_lt, Int64.lt_iff_toInt_lt, ← Int64.toInt_inj] at *
        omega
      · intro _; decide
theorem cmp_gt (x y : Int64) : 0 < lg_cmp x y ↔ y < x := by
  unfold lg_cmp
  by_cases h1 : x > y
  · rw [if_pos h1]
    exact ⟨fun _ => h1, fun _ => by decide⟩
  · rw [if_neg h1]
    by_cases h2 : x = y
    · rw [if_pos h2]
      exact ⟨fun h => absurd h (by decide), fun h => absurd h h1⟩
    · rw [if_neg h2]
      exact ⟨fun h => absurd h (by decide), fun h => absurd h h1⟩
theorem cmp_eq (x y : Int64) : lg_cmp x y = 0 ↔ x = y := by
  unfold lg_cmp
  by_cases h1 : x > y
  · rw [if_pos h1]
    exact ⟨fun h => absurd h (by decide), fun h => by subst h; simp only [gt_iff_lt, Int64.lt_iff_toInt_lt] at h1; omega⟩
  · rw [if_neg h1]
    by_cases h2 : x = y
    · rw [if_pos h2]
      exact ⟨fun _ => h2, fun _ => rfl⟩
    · rw [if_neg h2]
      exact ⟨fun h => absurd h (by decide), fun h => absurd h h2⟩
/-- in(v, a, b) over ints -/
theorem p_in (x : Int32) (a b : Int64) (h : gz_H) : fX9_in x.toInt64 a b h = some (if a.toInt ≤ x.toInt ∧ x.toInt ≤ b.toInt then 1 else 0, h) := by
  unfold fX9_in fX9_in_0
  have e := l_of x
  by_cases h1 : x.toInt64 < a
  · rw [if_pos ((cmp_lt _ _).mpr h1)]
    rw [if_neg (by simp only [Int64.lt_iff_toInt_lt] at h1; omega)]
  · rw [if_neg (fun z => h1 ((cmp_lt _ _).mp z))]
    by_cases h2 : b < x.toInt64
    · rw [if_pos ((cmp_gt _ _).mpr h2)]
      rw [if_neg (by simp only [Int64.lt_iff_toInt_lt] at h2; omega)]
    · rw [if_neg (fun z => h2 ((cmp_gt _ _).mp z))]
      rw [if_pos (by simp only [Int64.lt_iff_toInt_lt] at h1 h2; omega)]
theorem p_in_nI {j : Nat} (hj : j < 2 ^ 31) (a b : Nat) (ha : a < 2 ^ 31) (hb : b < 2 ^ 31) (h : gz_H) : fX9_in (nI j).toInt64 (lN a) (lN b) h = some (if a ≤ j ∧ j ≤ b then 1 else 0, h) := by
  rw [p_in, nI_toInt hj, lN_toInt ha, lN_toInt hb]
  by_cases e : a ≤ j ∧ j ≤ b
  · rw [if_pos e, if_pos (by omega)]
  · rw [if_neg e, if_neg (by omega)]
/-- an int that isn't within 0 .. n - 1 -/
def p_out (x : Int32) (n : Nat) : Prop := x < 0 ∨ nI n ≤ x
theorem p_out_toInt {x : Int32} {n : Nat} (hn : n < 2 ^ 31) (h : p_out x n) : x.toInt < 0 ∨ (n : Int) ≤ x.toInt := by
  rcases h with h | h
  · exact Or.inl (by simpa [Int32.lt_iff_toInt_lt] using h)
  · exact Or.inr (by rw [Int32.le_iff_toInt_le, nI_toInt hn] at h; exact h)
theorem p_cases (x : Int32) (n : Nat) (hn : n < 2 ^ 31) : p_out x n ∨ ∃ j : Nat, j < n ∧ x = nI j := by
  rcases pk_ix x hn with h | h | h
  · exact Or.inl (Or.inl h)
  · exact Or.inl (Or.inr h)
  · exact Or.inr h
/-! the layout: the class at 0 .. 84, the reference at 85 .. 102 -/
def gz_FS : List (Nat × Nat) := [(1, 4), (10, 8), (11, 6), (2, 6), (10, 8), (2, 6), (10, 8), (2, 6), (10, 8), (2, 6), (10, 8), (2, 6), (10, 8), (2, 6), (10, 8)]
def gz_SH : List (Nat × Nat) := [(8, 19), (7, 3), (13, 6), (10, 40), (10, 40), (10, 40), (10, 40), (10, 40), (10, 40), (10, 6), (7, 3), (13, 4), (10, 80), (10, 80), (10, 80), (10, 80), (10, 4), (5, 4), (0, 2), (10, 6), (4, 2), (6, 2), (10, 6), (2, 6), (10, 8), (3, 2), (10, 40), (12, 3),
  (1, 4), (10, 8), (11, 6), (2, 6), (10, 8), (2, 6), (10, 8), (2, 6), (10, 8), (2, 6), (10, 8), (2, 6), (10, 8), (2, 6), (10, 8),
  (1, 4), (10, 8), (11, 6), (2, 6), (10, 8), (2, 6), (10, 8), (2, 6), (10, 8), (2, 6), (10, 8), (2, 6), (10, 8), (2, 6), (10, 8),
  (1, 4), (10, 8), (11, 6), (2, 6), (10, 8), (2, 6), (10, 8), (2, 6), (10, 8), (2, 6), (10, 8), (2, 6), (10, 8), (2, 6), (10, 8),
  (10, 6), (10, 6), (10, 36), (10, 256), (10, 8), (10, 8), (3, 2), (10, 40), (3, 2), (10, 40), (3, 2), (10, 40),
  (9, 29), (10, 9024), (10, 8), (10, 6), (10, 6), (10, 6), (10, 6), (10, 240), (10, 4), (10, 320), (10, 6), (10, 8), (10, 18), (10, 6), (10, 48), (10, 8), (10, 36), (10, 256)]
/-- the references that never change: (cell, field, cell) -/
def gz_RT : List (Nat × Nat × Nat) := [(0, 0, 1), (0, 1, 10), (0, 2, 17), (0, 3, 18), (0, 4, 20), (0, 5, 21), (0, 6, 23), (0, 7, 25), (0, 8, 27), (0, 9, 28), (0, 12, 73), (0, 13, 74), (0, 14, 75), (0, 15, 76), (0, 16, 77), (0, 17, 78),
  (1, 1, 2), (1, 2, 9), (2, 0, 3), (2, 1, 4), (2, 2, 5), (2, 3, 6), (2, 4, 7), (2, 5, 8), (10, 1, 11), (10, 2, 16), (11, 0, 12), (11, 1, 13), (11, 2, 14), (11, 3, 15), (18, 0, 19), (21, 0, 22), (23, 0, 24), (25, 0, 26), (27, 0, 79), (27, 1, 81), (27, 2, 83), (79, 0, 80), (81, 0, 82), (83, 0, 84),
  (28, 0, 29), (28, 1, 30), (30, 0, 31), (30, 1, 33), (30, 2, 35), (30, 3, 37), (30, 4, 39), (30, 5, 41), (31, 0, 32), (33, 0, 34), (35, 0, 36), (37, 0, 38), (39, 0, 40), (41, 0, 42),
  (43, 0, 44), (43, 1, 45), (45, 0, 46), (45, 1, 48), (45, 2, 50), (45, 3, 52), (45, 4, 54), (45, 5, 56), (46, 0, 47), (48, 0, 49), (50, 0, 51), (52, 0, 53), (54, 0, 55), (56, 0, 57),
  (58, 0, 59), (58, 1, 60), (60, 0, 61), (60, 1, 63), (60, 2, 65), (60, 3, 67), (60, 4, 69), (60, 5, 71), (61, 0, 62), (63, 0, 64), (65, 0, 66), (67, 0, 68), (69, 0, 70), (71, 0, 72),
  (85, 0, 86), (85, 2, 87), (85, 4, 88), (85, 5, 89), (85, 6, 90), (85, 7, 91), (85, 8, 92), (85, 9, 93), (85, 10, 94), (85, 15, 95), (85, 19, 96), (85, 21, 97), (85, 22, 98), (85, 23, 99), (85, 26, 100), (85, 27, 101), (85, 28, 102)]
/-- shapes and references stand -/
def gz_La (h : gz_H) : Prop := h.1 = gz_SH ∧ ∀ q ∈ gz_RT, h.2.2.2 q.1 q.2.1 = some q.2.2
theorem gz_La.sh {h : gz_H} (H : gz_La h) {a : Nat} {kn : Nat × Nat} (e : gz_SH[a]? = some kn) : h.1[a]? = some kn := by rw [H.1]; exact e
theorem gz_La.ck {h : gz_H} (H : gz_La h) {a ci N : Nat} (e : gz_SH[a]? = some (ci, N)) : gz_sh h a ci N = true := sh_t (H.sh e)
theorem gz_La.rf {h : gz_H} (H : gz_La h) (a k r : Nat) (e : (a, k, r) ∈ gz_RT) : h.2.2.2 a k = some r := H.2 (a, k, r) e
theorem gz_La.of {h h' : gz_H} (H : gz_La h) (e1 : h'.1 = h.1) (e2 : h'.2.2.2 = h.2.2.2) : gz_La h' := ⟨e1.trans H.1, fun q hq => by rw [e2]; exact H.2 q hq⟩
/-! Arrays.fill -/
theorem p_fill5 (a n : Nat) (v : Int32) (hn : n < 100000) : ∀ (m i : Nat) (h : gz_H), i ≤ n → n < i + m → h.1[a]? = some (10, n) → fJ7_fill_53178_5 m a v (nI i) (nI n) h = some ((), uF h a (fun k => if i ≤ k ∧ k < n then v else h.2.1 a k)) := by
  intro m
  induction m with
  | zero => intro i h h1 h2; omega
  | succ m ih =>
    intro i h h1 h2 hs
    rw [fJ7_fill_53178_5]
    by_cases e : i = n
    · subst e
      rw [if_pos (nI_le (Nat.le_refl _) (by omega))]
      refine congrArg some (congrArg (Prod.mk ()) ?_)
      refine (uF_self (h := h) (a := a)).symm.trans (uF_cg fun k => ?_)
      rw [if_neg (by omega)]
    · rw [if_neg (fun z => e (by have := (nI_leI (a := n) (b := i) (by omega) (by omega)).mp z; omega)), ck_t (inb_nI hs (by omega) (by omega)), lt_d, nI_1, nI_clamp (by omega), ih (i + 1) (uI h a i v) (by omega) (by omega) hs]
      refine congrArg some (congrArg (Prod.mk ()) ?_)
      rw [uF_uI]
      refine uF_cg fun k => ?_
      rw [uI_I]
      by_cases hk : k = i
      · subst hk
        rw [if_neg (by omega), if_pos ⟨rfl, rfl⟩, if_pos ⟨Nat.le_refl _, by omega⟩]
      · have hne : ¬ (a = a ∧ k = i) := fun z => hk z.2
        rw [if_neg hne]
        by_cases h9 : i + 1 ≤ k ∧ k < n
        · rw [if_pos h9, if_pos (by omega)]
        · rw [if_neg h9, if_neg (by omega)]
theorem p_fill {h : gz_H} {a n : Nat} (hs : h.1[a]? = some (10, n)) (hn : n < 99999) (v : Int32) : fJ7_fill_53178 a v h = some ((), uF h a (fun k => if k < n then v else h.2.1 a k)) := by
  unfold fJ7_fill_53178 fJ7_fill_53178_0
  rw [len_s hs (by omega), bi_s]
  have := p_fill5 a n v (by omega) gz_fu 0 h (by omega) (by show n < 0 + 100000; omega) hs
  rw [nI_0] at this
  rw [this]
  refine congrArg some (congrArg (Prod.mk ()) (uF_cg fun k => ?_))
  by_cases e : k < n
  · rw [if_pos e, if_pos (by omega)]
  · rw [if_neg e, if_neg (by omega)]
