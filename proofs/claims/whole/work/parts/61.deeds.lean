/-! PURE: deeds, as such -/
theorem tk_len {mo f : Nat} {l : List Nat} (h1 : 1 ≤ mo) (h : l.length ≤ mo) : (tk mo l f).length ≤ mo := by
  unfold tk
  by_cases e : f ∈ l
  · rw [if_pos e, List.length_append, List.length_erase_of_mem e]
    have := List.length_pos_of_mem e
    simp
    omega
  · rw [if_neg e]
    by_cases c : mo ≤ l.length
    · rw [if_pos c]; simp; omega
    · rw [if_neg c]; simp; omega
theorem tk_mem {mo f x : Nat} {l : List Nat} (h : x ∈ tk mo l f) : x ∈ l ∨ x = f := by
  unfold tk at h
  by_cases e : f ∈ l
  · rw [if_pos e] at h
    rcases List.mem_append.mp h with q | q
    · exact Or.inl (List.mem_of_mem_erase q)
    · exact Or.inr (List.mem_singleton.mp q)
  · rw [if_neg e] at h
    by_cases c : mo ≤ l.length
    · rw [if_pos c] at h
      rcases List.mem_append.mp h with q | q
      · exact Or.inl (List.mem_of_mem_tail q)
      · exact Or.inr (List.mem_singleton.mp q)
    · rw [if_neg c] at h
      rcases List.mem_append.mp h with q | q
      · exact Or.inl q
      · exact Or.inr (List.mem_singleton.mp q)
theorem nodup_add {l : List Nat} {f : Nat} (h : l.Nodup) (hf : f ∉ l) : (l ++ [f]).Nodup := by
  rw [List.nodup_append]
  exact ⟨h, by simp, fun a ha b hb => by rw [List.mem_singleton.mp hb]; exact fun z => hf (z ▸ ha)⟩
theorem tk_nodup {mo f : Nat} {l : List Nat} (h : l.Nodup) : (tk mo l f).Nodup := by
  unfold tk
  by_cases e : f ∈ l
  · rw [if_pos e]
    exact nodup_add (h.erase f) (fun z => by have := (List.Nodup.mem_erase_iff h).mp z; exact this.1 rfl)
  · rw [if_neg e]
    by_cases c : mo ≤ l.length
    · rw [if_pos c]
      exact nodup_add (h.sublist (List.tail_sublist l)) (fun z => e (List.mem_of_mem_tail z))
    · rw [if_neg c]
      exact nodup_add h e
/-- a goose that may be -/
def gd (T : gz_T) (i : Nat) (l : List Nat) : Prop := l.length ≤ T.2.2.2.2.1 i ∧ l.Nodup ∧ ∀ f ∈ l, f < T.1
theorem gd_tk {T : gz_T} {i f : Nat} {l : List Nat} (w : wsT T) (hi : i < T.2.1) (hf : f < T.1) (g : gd T i l) : gd T i (tk (T.2.2.2.2.1 i) l f) :=
  ⟨tk_len (w.bi i hi).2.1 g.1, tk_nodup g.2.1, fun x hx => (tk_mem hx).elim (g.2.2 x) (fun e => e ▸ hf)⟩
theorem gd_fold {T : gz_T} {i : Nat} (w : wsT T) (hi : i < T.2.1) : ∀ (k l : List Nat), (∀ f ∈ k, f < T.1) → gd T i l → gd T i (k.foldl (tk (T.2.2.2.2.1 i)) l) := by
  intro k
  induction k with
  | nil => intro l _ g; exact g
  | cons f k ih =>
    intro l hk g
    exact ih _ (fun x hx => hk x (List.mem_cons_of_mem _ hx)) (gd_tk w hi (hk f List.mem_cons_self) g)
theorem wd.gd {T : gz_T} {E : gz_D} (d : wd T E) {i : Nat} (hi : i < T.2.1) : gd T i (E i).1 := ⟨(d i hi).1, (d i hi).2.1, (d i hi).2.2.1⟩
theorem up_at {E : gz_D} {i : Nat} {x : List Nat × Bool} : va_up E i x i = x := by simp [va_up]
theorem up_ne {E : gz_D} {i j : Nat} {x : List Nat × Bool} (h : ¬ j = i) : va_up E i x j = E j := by simp [va_up, h]
theorem wd_up {T : gz_T} {E : gz_D} (d : wd T E) {i : Nat} {x : List Nat × Bool} (g : i < T.2.1 → gd T i x.1) (b : x.2 = true → x.1 = []) : wd T (va_up E i x) := by
  intro j hj
  by_cases e : j = i
  · subst e
    rw [up_at]
    exact ⟨(g hj).1, (g hj).2.1, (g hj).2.2, b⟩
  · rw [up_ne e]
    exact d j hj
theorem gd_nil {T : gz_T} {i : Nat} : gd T i [] := ⟨Nat.zero_le _, List.nodup_nil, fun f hf => absurd hf (by simp)⟩
theorem lv_e {E : gz_D} {i : Nat} {l : List Nat} (h : (E i).2 = false) : (E i).2 = true → l = [] := fun z => by rw [h] at z; exact absurd z (by decide)
theorem mixT {T : gz_T} {E : gz_D} {i j : Nat} : ((pf_mix T E i j).1 = i ∧ (pf_mix T E i j).2 = j) ∨ ((pf_mix T E i j).1 = j ∧ (pf_mix T E i j).2 = i) := by
  unfold pf_mix
  by_cases c : T.2.2.2.2.2 j < T.2.2.2.2.2 i ∨ (T.2.2.2.2.2 i = T.2.2.2.2.2 j ∧ i < j)
  · rw [if_pos c]; exact Or.inl ⟨rfl, rfl⟩
  · rw [if_neg c]; exact Or.inr ⟨rfl, rfl⟩
theorem wd_pf {T : gz_T} {E : gz_D} {d : gz_De} (w : wsT T) (D : wd T E) (v : vd T d) (l : lv E d) : wd T (pf T E d) := by
  obtain ⟨a, i, j⟩ := d
  obtain ⟨v1, v2, v3, v4, v5, v6⟩ := v
  obtain ⟨l1, l2, l3⟩ := l
  dsimp only at v1 v2 v3 v4 v5 v6 l1 l2 l3
  unfold pf
  dsimp only
  by_cases c0 : a = 0
  · rw [if_pos c0]
    exact wd_up D (fun _ => gd_tk w v2 (v3 c0) (D.gd v2)) (lv_e l1)
  · rw [if_neg c0]
    by_cases c1 : a = 1
    · rw [if_pos c1]
      have g := D.gd v2
      exact wd_up D (fun _ => ⟨by have := g.1; simp; omega, g.2.1.sublist (List.dropLast_sublist _), fun f hf => g.2.2 f (List.dropLast_subset _ hf)⟩) (lv_e l1)
    · rw [if_neg c1]
      by_cases c2 : a = 2
      · rw [if_pos c2]
        have vj := v5 c2
        have lj := l2 c2
        cases e : (E (pf_mix T E i j).1).1.getLast? with
        | none => exact D
        | some f =>
          have hf : f ∈ (E (pf_mix T E i j).1).1 := List.mem_of_getLast? e
          rcases mixT (T := T) (E := E) (i := i) (j := j) with ⟨m1, m2⟩ | ⟨m1, m2⟩
          · rw [m1] at hf
            rw [m2]
            exact wd_up D (fun _ => gd_tk w vj.1 ((D.gd v2).2.2 f hf) (D.gd vj.1)) (lv_e lj)
          · rw [m1] at hf
            rw [m2]
            exact wd_up D (fun _ => gd_tk w v2 ((D.gd vj.1).2.2 f hf) (D.gd v2)) (lv_e l1)
      · rw [if_neg c2]
        by_cases c3 : j = 15
        · rw [if_pos c3]
          exact wd_up D (fun _ => gd_nil) (fun _ => rfl)
        · rw [if_neg c3]
          have vj := (v6 (by omega)).resolve_left c3
          exact wd_up (wd_up D (x := ((E i).1.foldl (tk (T.2.2.2.2.1 j)) (E j).1, (E j).2)) (fun _ => gd_fold w vj.1 _ _ (D.gd v2).2.2 (D.gd vj.1)) (lv_e (l3 (by omega) c3))) (x := ([], true)) (fun _ => gd_nil) (fun _ => rfl)
theorem rn_add {T : gz_T} {D : gz_D} {ds : List gz_De} {d : gz_De} : rn T D (ds ++ [d]) = pf T (rn T D ds) d := by unfold rn; rw [List.foldl_append]; rfl
theorem gl_add {T : gz_T} {D : gz_D} {ds : List gz_De} {d : gz_De} (w : wsT T) (g : gl T D ds) (hl : ds.length < 40) (v : vd T d) (l : lv (rn T D ds) d) : gl T D (ds ++ [d]) := by
  obtain ⟨g1, g2, g3, g4⟩ := g
  have e0 := g3 ds.length (Nat.le_refl _)
  rw [List.take_length] at e0
  refine ⟨by simp; omega, fun x hx => ?_, fun n hn => ?_, fun n hn => ?_⟩
  · rcases List.mem_append.mp hx with q | q
    · exact g2 x q
    · rw [List.mem_singleton.mp q]; exact v
  · rcases Nat.lt_or_ge ds.length n with q | q
    · rw [List.take_of_length_le (by simp; omega), rn_add]
      exact wd_pf w e0 v l
    · rw [List.take_append_of_le_length q]
      exact g3 n q
  · have hn2 : n < ds.length + 1 := by simpa using hn
    rw [List.take_append_of_le_length (by omega)]
    rcases Nat.lt_or_ge n ds.length with q | q
    · rw [List.getD_eq_getElem?_getD, List.getElem?_append_left q, ← List.getD_eq_getElem?_getD]
      exact g4 n q
    · have : n = ds.length := by omega
      subst this
      rw [List.take_length, List.getD_eq_getElem?_getD, List.getElem?_append_right (Nat.le_refl _)]
      simp
      exact l
theorem gl_take {T : gz_T} {D : gz_D} {ds : List gz_De} (g : gl T D ds) (n : Nat) : gl T D (ds.take n) := by
  obtain ⟨g1, g2, g3, g4⟩ := g
  refine ⟨by simp; omega, fun x hx => g2 x (List.mem_of_mem_take hx), fun m hm => ?_, fun m hm => ?_⟩
  · have : m ≤ n ∧ m ≤ ds.length := by simp at hm; omega
    rw [List.take_take, Nat.min_eq_left this.1]
    exact g3 m this.2
  · have : m < n ∧ m < ds.length := by simp at hm; omega
    rw [List.take_take, Nat.min_eq_left (by omega), List.getD_eq_getElem?_getD, List.getElem?_take_of_lt this.1, ← List.getD_eq_getElem?_getD]
    exact g4 m this.2
