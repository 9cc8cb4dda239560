/-! PURE: what a flock is. T: facts, geese, places, kinds, mosts, ranks; D: what each goose holds, whether it is gone; deeds (which, goose, other) -/
abbrev gz_T : Type := Nat × Nat × (Nat → Nat) × (Nat → Nat) × (Nat → Nat) × (Nat → Nat)
abbrev gz_D : Type := Nat → List Nat × Bool
abbrev gz_De : Type := Nat × Nat × Nat
/-- a goose that holds at most mo takes f -/
def tk (mo : Nat) (l : List Nat) (f : Nat) : List Nat := if f ∈ l then l.erase f ++ [f] else if mo ≤ l.length then l.tail ++ [f] else l ++ [f]
def pf_mix (T : gz_T) (D : gz_D) (i j : Nat) : Nat × Nat := if T.2.2.2.2.2 j < T.2.2.2.2.2 i ∨ (T.2.2.2.2.2 i = T.2.2.2.2.2 j ∧ i < j) then (i, j) else (j, i)
def pf (T : gz_T) (D : gz_D) (d : gz_De) : gz_D :=
  if d.1 = 0 then va_up D d.2.1 (tk (T.2.2.2.2.1 d.2.1) (D d.2.1).1 d.2.2, (D d.2.1).2)
  else if d.1 = 1 then va_up D d.2.1 ((D d.2.1).1.dropLast, (D d.2.1).2)
  else if d.1 = 2 then
    (match (D (pf_mix T D d.2.1 d.2.2).1).1.getLast? with
      | some f => va_up D (pf_mix T D d.2.1 d.2.2).2 (tk (T.2.2.2.2.1 (pf_mix T D d.2.1 d.2.2).2) (D (pf_mix T D d.2.1 d.2.2).2).1 f, (D (pf_mix T D d.2.1 d.2.2).2).2)
      | none => D)
  else if d.2.2 = 15 then va_up D d.2.1 ([], true)
  else va_up (va_up D d.2.2 ((D d.2.1).1.foldl (tk (T.2.2.2.2.1 d.2.2)) (D d.2.2).1, (D d.2.2).2)) d.2.1 ([], true)
def rn (T : gz_T) (D : gz_D) (ds : List gz_De) : gz_D := ds.foldl (pf T) D
def wsT (T : gz_T) : Prop := T.1 ≤ 8 ∧ T.2.1 ≤ 6 ∧ (T.1 = 0 ↔ T.2.1 = 0) ∧ (∀ f, f < T.1 → T.2.2.1 f ≤ 5) ∧ ∀ i, i < T.2.1 → T.2.2.2.1 i ≤ 5 ∧ 1 ≤ T.2.2.2.2.1 i ∧ T.2.2.2.2.1 i ≤ 8 ∧ T.2.2.2.2.2 i ≤ 9
def wd (T : gz_T) (D : gz_D) : Prop := ∀ i, i < T.2.1 → (D i).1.length ≤ T.2.2.2.2.1 i ∧ (D i).1.Nodup ∧ (∀ f ∈ (D i).1, f < T.1) ∧ ((D i).2 = true → (D i).1 = [])
def vd (T : gz_T) (d : gz_De) : Prop := d.1 ≤ 3 ∧ d.2.1 < T.2.1 ∧ (d.1 = 0 → d.2.2 < T.1) ∧ (d.1 = 1 → d.2.2 = 0) ∧ (d.1 = 2 → d.2.2 < T.2.1 ∧ d.2.2 ≠ d.2.1) ∧ (d.1 = 3 → d.2.2 = 15 ∨ (d.2.2 < T.2.1 ∧ d.2.2 ≠ d.2.1))
/-- those that it is done to are there -/
def lv (E : gz_D) (d : gz_De) : Prop := (E d.2.1).2 = false ∧ (d.1 = 2 → (E d.2.2).2 = false) ∧ (d.1 = 3 → d.2.2 ≠ 15 → (E d.2.2).2 = false)
def gl (T : gz_T) (D : gz_D) (ds : List gz_De) : Prop := ds.length ≤ 40 ∧ (∀ d ∈ ds, vd T d) ∧ (∀ n, n ≤ ds.length → wd T (rn T D (ds.take n))) ∧ ∀ n, n < ds.length → lv (rn T D (ds.take n)) (ds.getD n (0, 0, 0))
/-- a goose of the class: at g, its facts at g + 1 -/
def gv (h : gz_H) (g : Nat) (l : List Nat) : Prop := h.1[g]? = some (2, 6) ∧ h.1[g + 1]? = some (10, 8) ∧ h.2.2.2 g 0 = some (g + 1) ∧ l.length ≤ 8 ∧ h.2.1 g 1 = nI l.length ∧ ∀ k, k < l.length → h.2.1 (g + 1) k = nI (l.getD k 0)
/-- a flock of the class, at fa -/
def xv (h : gz_H) (fa : Nat) (T : gz_T) (D : gz_D) : Prop := h.2.1 fa 2 = nI T.1 ∧ h.2.1 fa 3 = nI T.2.1 ∧ (∀ k, k < T.1 → h.2.1 (fa + 1) k = nI (T.2.2.1 k)) ∧
  ∀ i, i < T.2.1 → gv h (fa + 3 + 2 * i) (D i).1 ∧ h.2.1 (fa + 3 + 2 * i) 2 = nI (T.2.2.2.1 i) ∧ h.2.1 (fa + 3 + 2 * i) 3 = nI (T.2.2.2.2.1 i) ∧ h.2.1 (fa + 3 + 2 * i) 4 = nI (T.2.2.2.2.2 i) ∧ h.2.1 (fa + 3 + 2 * i) 5 = (if (D i).2 = true then 1 else 0)
def dcode (d : gz_De) : Nat := d.1 * 256 + d.2.1 * 16 + d.2.2
/-- a log of the class, at la -/
def lgv (h : gz_H) (la : Nat) (ds : List gz_De) : Prop := h.2.1 la 1 = nI ds.length ∧ ∀ k, k < ds.length → h.2.1 (la + 1) k = nI (dcode (ds.getD k (0, 0, 0)))
def gbits (n : Nat) (D : gz_D) : Nat := fo (fun i => if (D i).2 = true then 2 ^ i else 0) n
/-- a flock of the reference, in its row from B on -/
def mv (h : gz_H) (B : Nat) (n : Nat) (D : gz_D) : Prop := h.2.1 86 (B + 1) = nI (gbits n D) ∧ ∀ i, i < n → h.2.1 86 (B + 2 + i) = nI (D i).1.length ∧ ∀ k, k < (D i).1.length → h.2.1 86 (B + 8 + 8 * i + k) = nI ((D i).1.getD k 0)
def mb (h : gz_H) (B : Nat) (T : gz_T) (D : gz_D) (ds : List gz_De) : Prop := h.2.1 86 B = nI ds.length ∧ mv h B T.2.1 (rn T D ds) ∧ ∀ n, n < ds.length → mv h (B + 55 + 55 * n) T.2.1 (rn T D (ds.take n))
def msv (h : gz_H) (T : gz_T) : Prop := h.2.1 85 1 = nI T.1 ∧ h.2.1 85 3 = nI T.2.1 ∧ (∀ k, k < T.1 → h.2.1 87 k = nI (T.2.2.1 k)) ∧ ∀ i, i < T.2.1 → h.2.1 88 i = nI (T.2.2.2.1 i) ∧ h.2.1 89 i = nI (T.2.2.2.2.1 i) ∧ h.2.1 90 i = nI (T.2.2.2.2.2 i)
def xk (h : gz_H) (k : Nat) (e : Option (List gz_De)) : Prop := match e with
  | none => h.2.1 (79 + 2 * k) 1 = -1
  | some es => lgv h (79 + 2 * k) es
def mk (h : gz_H) (k : Nat) (T : gz_T) (D : gz_D) (e : Option (List gz_De)) : Prop := match e with
  | none => h.2.1 86 (2256 * (k + 1)) = -1
  | some es => mb h (2256 * (k + 1)) T D es
/-- the flocks of both agree: T, D (the start), the deeds, the kept ones' deeds, where the start lies -/
def gz_Fv (h : gz_H) (T : gz_T) (D : gz_D) (ds : List gz_De) (ks : Nat → Option (List gz_De)) (sa : Nat) : Prop :=
  (wsT T ∧ wd T D ∧ (∀ i, i < T.2.1 → (D i).2 = false) ∧ gl T D ds ∧ ∀ k es, k < 3 → ks k = some es → gl T D es) ∧
  ((sa = 43 ∨ sa = 58) ∧ h.2.2.2 0 10 = some sa ∧ h.2.2.2 0 11 = some (101 - sa)) ∧
  (xv h sa T D ∧ xv h 28 T (rn T D ds) ∧ lgv h 25 ds ∧ ∀ k, k < 3 → xk h k (ks k)) ∧
  (msv h T ∧ mb h 0 T D ds ∧ ∀ k, k < 3 → mk h k T D (ks k))
def gz_Fk (h : gz_H) : Prop := ∃ T D ds ks sa, gz_Fv h T D ds ks sa
theorem gv.cg {h h' : gz_H} {g : Nat} {l : List Nat} (H : gv h g l) (e1 : h'.1 = h.1) (e2 : h'.2.2.2 = h.2.2.2) (e : ∀ k, h'.2.1 g k = h.2.1 g k ∧ h'.2.1 (g + 1) k = h.2.1 (g + 1) k) : gv h' g l := by
  obtain ⟨a1, a2, a3, a4, a5, a6⟩ := H
  exact ⟨by rw [e1]; exact a1, by rw [e1]; exact a2, by rw [e2]; exact a3, a4, by rw [(e 1).1]; exact a5, fun k hk => by rw [(e k).2]; exact a6 k hk⟩
theorem xv.cg {h h' : gz_H} {fa : Nat} {T : gz_T} {D : gz_D} (H : xv h fa T D) (hG : T.2.1 ≤ 6) (e1 : h'.1 = h.1) (e2 : h'.2.2.2 = h.2.2.2) (e : ∀ a k, fa ≤ a → a ≤ fa + 14 → h'.2.1 a k = h.2.1 a k) : xv h' fa T D := by
  obtain ⟨a1, a2, a3, a4⟩ := H
  refine ⟨by rw [e fa 2 (by omega) (by omega)]; exact a1, by rw [e fa 3 (by omega) (by omega)]; exact a2, fun k hk => by rw [e (fa + 1) k (by omega) (by omega)]; exact a3 k hk, fun i hi => ?_⟩
  obtain ⟨b1, b2, b3, b4, b5⟩ := a4 i hi
  have eg : ∀ k, h'.2.1 (fa + 3 + 2 * i) k = h.2.1 (fa + 3 + 2 * i) k := fun k => e _ k (by omega) (by omega)
  exact ⟨b1.cg e1 e2 (fun k => ⟨eg k, e _ k (by omega) (by omega)⟩), by rw [eg]; exact b2, by rw [eg]; exact b3, by rw [eg]; exact b4, by rw [eg]; exact b5⟩
theorem lgv.cg {h h' : gz_H} {la : Nat} {ds : List gz_De} (H : lgv h la ds) (e : ∀ a k, la ≤ a → a ≤ la + 1 → h'.2.1 a k = h.2.1 a k) : lgv h' la ds :=
  ⟨by rw [e la 1 (by omega) (by omega)]; exact H.1, fun k hk => by rw [e (la + 1) k (by omega) (by omega)]; exact H.2 k hk⟩
theorem mv.cg {h h' : gz_H} {B n : Nat} {D : gz_D} (H : mv h B n D) (e : ∀ k, h'.2.1 86 k = h.2.1 86 k) : mv h' B n D :=
  ⟨by rw [e]; exact H.1, fun i hi => ⟨by rw [e]; exact (H.2 i hi).1, fun k hk => by rw [e]; exact (H.2 i hi).2 k hk⟩⟩
theorem mb.cg {h h' : gz_H} {B : Nat} {T : gz_T} {D : gz_D} {ds : List gz_De} (H : mb h B T D ds) (e : ∀ k, h'.2.1 86 k = h.2.1 86 k) : mb h' B T D ds :=
  ⟨by rw [e]; exact H.1, H.2.1.cg e, fun n hn => (H.2.2 n hn).cg e⟩
theorem gz_Fv.cg {h h' : gz_H} {T : gz_T} {D : gz_D} {ds : List gz_De} {ks : Nat → Option (List gz_De)} {sa : Nat} (H : gz_Fv h T D ds ks sa) (e1 : h'.1 = h.1) (e2 : h'.2.2.2 = h.2.2.2) (e : ∀ a k, gz_ff a k → h'.2.1 a k = h.2.1 a k) : gz_Fv h' T D ds ks sa := by
  obtain ⟨w, ⟨s1, s2, s3⟩, ⟨x1, x2, x3, x4⟩, ⟨m1, m2, m3⟩⟩ := H
  have hG := w.1.2.1
  have e86 : ∀ k, h'.2.1 86 k = h.2.1 86 k := fun k => e 86 k (by unfold gz_ff; omega)
  refine ⟨w, ⟨s1, by rw [e2]; exact s2, by rw [e2]; exact s3⟩, ⟨x1.cg hG e1 e2 (fun a k h1 h2 => e a k (by unfold gz_ff; omega)), x2.cg hG e1 e2 (fun a k h1 h2 => e a k (by unfold gz_ff; omega)), x3.cg (fun a k h1 h2 => e a k (by unfold gz_ff; omega)), fun k hk => ?_⟩, ⟨?_, m2.cg e86, fun k hk => ?_⟩⟩
  · have := x4 k hk
    unfold xk at this ⊢
    cases hks : ks k with
    | none =>
      rw [hks] at this
      show h'.2.1 (79 + 2 * k) 1 = -1
      rw [e _ _ (by unfold gz_ff; omega)]
      exact this
    | some es =>
      rw [hks] at this
      exact lgv.cg this (fun a j h1 h2 => e a j (by unfold gz_ff; omega))
  · obtain ⟨b1, b2, b3, b4⟩ := m1
    refine ⟨by rw [e 85 1 (by unfold gz_ff; omega)]; exact b1, by rw [e 85 3 (by unfold gz_ff; omega)]; exact b2, fun k hk => by rw [e 87 k (by unfold gz_ff; omega)]; exact b3 k hk, fun i hi => ?_⟩
    rw [e 88 i (by unfold gz_ff; omega), e 89 i (by unfold gz_ff; omega), e 90 i (by unfold gz_ff; omega)]
    exact b4 i hi
  · have := m3 k hk
    unfold mk at this ⊢
    cases hks : ks k with
    | none =>
      rw [hks] at this
      show h'.2.1 86 _ = -1
      rw [e86]
      exact this
    | some es =>
      rw [hks] at this
      exact mb.cg this e86
/-- THE INVARIANT -/
def gz_Iv (h : gz_H) : Prop := gz_In h ∧ gz_Fk h
theorem gz_St.iv {h h' : gz_H} (S : gz_St h h') (I : gz_Iv h) : gz_Iv h' := by
  obtain ⟨T, D, ds, ks, sa, F⟩ := I.2
  exact ⟨S.1, T, D, ds, ks, sa, F.cg (S.1.1.1.trans I.1.1.1.symm) S.2.1 S.2.2⟩
/-- both answer alike, and P holds behind -/
def gz_ag {α : Type} (X M : gz_H → Option (α × gz_H)) (h : gz_H) (P : gz_H → Prop) : Prop := ∃ v h1 h2, X h = some (v, h1) ∧ h1.1 = gz_SH ∧ M h1 = some (v, h2) ∧ P h2
