/-! THE ABSTRACT HEAP AND THE JUDGEMENTS. A heap of cells at base + 0, 1, ..: shapes (kind, size), ints, longs, references. Kinds 0 .. 9: objects of gz_cl; 10 int[], 11 Goose[], 12 Log[], 13 int[][]. 1000000 is the script, 1000001 LETTERS. -/
def gz_TB : List Cond := lw_tbl.filter goodWord
def gz_nest : Cond → Bool
  | .fieldLinkNest .. => true
  | .methodLinkNest .. => true
  | _ => false
def gz_NW : List Cond := lw_tbl.filter gz_nest
theorem gz_in {w : Cond} (i : Nat) (h : lw_tbl[i]? = some w) (hg : goodWord w = true) : w ∈ gz_TB := List.mem_filter.mpr ⟨List.mem_of_getElem? h, hg⟩
theorem gz_inN {w : Cond} (i : Nat) (h : lw_tbl[i]? = some w) (hg : gz_nest w = true) : w ∈ gz_NW := List.mem_filter.mpr ⟨List.mem_of_getElem? h, hg⟩
abbrev gz_H : Type := List (Nat × Nat) × (Nat → Nat → Int32) × (Nat → Nat → Int64) × (Nat → Nat → Option Nat)
abbrev gz_G : Type := Nat × Nat × Nat × Nat × (Nat → Int32) × va_G × (Nat → ClassId)
abbrev gz_B : Type := Nat × Nat × Nat × Nat × Nat
abbrev gz_cl : List vw_C := [(RX0, TX0, 2), (RX1, TX1, 4), (RX2, TX2, 6), (RX3, TX3, 2), (RX4, TX4, 2), (RX5, TX5, 4), (RX6, TX6, 2), (RX7, TX7, 3), (RX8, TX8, 19), (RX9, TX9, 29)]
def gz_ty (ci k : Nat) : FieldType := match ci with
  | 0 => tyX0 k
  | 1 => tyX1 k
  | 2 => tyX2 k
  | 3 => tyX3 k
  | 4 => tyX4 k
  | 5 => tyX5 k
  | 6 => tyX6 k
  | 7 => tyX7 k
  | 8 => tyX8 k
  | _ => tyX9 k
def gz_r (G : gz_G) (a : Nat) : Nat := if a < 1000000 then G.1 + a else if a = 1000000 then G.2.1 else G.2.2.1
def gz_v (G : gz_G) : Value → Value
  | .ref a => .ref (gz_r G a)
  | v => v
def gz_fv (G : gz_G) (ty : FieldType) (i : Int32) (l : Int64) (r : Option Nat) : Value := match ty with
  | .int => .int i
  | .boolean => .int i
  | .long => .long l
  | _ => va_rf (r.map (gz_r G))
def gz_E (G : gz_G) (kn : Nat × Nat) (I : Nat → Int32) (L : Nat → Int64) (R : Nat → Option Nat) : va_E :=
  if kn.1 < 10 then .inr (kn.1, (List.range kn.2).map (fun i => gz_fv G (gz_ty kn.1 i) (I i) (L i) (R i)))
  else if kn.1 = 10 then .inl (G.2.2.2.2.2.2 10, kn.2, .inl I)
  else .inl (G.2.2.2.2.2.2 kn.1, kn.2, .inr (.inr (.inr (.inr (fun i => (R i).map (gz_r G))))))
def gz_ws (G : gz_G) (h : gz_H) : va_W := (List.range h.1.length).map (fun a => (G.1 + a, gz_E G (h.1.getD a (0, 0)) (h.2.1 a) (h.2.2.1 a) (h.2.2.2 a)))
def gz_A (G : gz_G) : Nat → Prop := fun q => G.1 ≤ q
abbrev gz_tys (G : gz_G) : List (ClassId × FieldType) := [(G.2.2.2.2.2.2 10, .int), (G.2.2.2.2.2.2 11, .object RX2), (G.2.2.2.2.2.2 12, .object RX3), (G.2.2.2.2.2.2 13, .array .int)]
def gz_let (j : Nat) : Value := .int (match j with
  | 0 => 103
  | 1 => 97
  | 2 => 116
  | 3 => 104
  | 4 => 108
  | _ => 115)
def gz_ss : List (Nat × Nat) → Nat
  | [] => 0
  | x :: l => x.2 + gz_ss l
theorem gz_ss_app (a b : List (Nat × Nat)) : gz_ss (a ++ b) = gz_ss a + gz_ss b := by
  induction a with
  | nil => simp [gz_ss]
  | cons x l ih => simp [gz_ss, ih, Nat.add_assoc]
/-- the updates -/
def uI (h : gz_H) (a k : Nat) (v : Int32) : gz_H := (h.1, va_up h.2.1 a (upd (h.2.1 a) k v), h.2.2.1, h.2.2.2)
def uL (h : gz_H) (a k : Nat) (v : Int64) : gz_H := (h.1, h.2.1, va_up h.2.2.1 a (vp_updL (h.2.2.1 a) k v), h.2.2.2)
def uR (h : gz_H) (a k : Nat) (v : Option Nat) : gz_H := (h.1, h.2.1, h.2.2.1, va_up h.2.2.2 a (va_up (h.2.2.2 a) k v))
def uF (h : gz_H) (a : Nat) (f : Nat → Int32) : gz_H := (h.1, va_up h.2.1 a f, h.2.2.1, h.2.2.2)
def gz_al (h : gz_H) (kn : Nat × Nat) : gz_H := (h.1 ++ [kn], va_up h.2.1 h.1.length (fun _ => 0), va_up h.2.2.1 h.1.length (fun _ => 0), va_up h.2.2.2 h.1.length (fun _ => none))
def gz_inb (h : gz_H) (a k : Nat) (i : Int32) : Bool := match h.1[a]? with
  | some kn => kn.1 == k && !decide (i < 0) && decide (i.toNatClampNeg < kn.2)
  | none => false
theorem gz_inb_spec {h : gz_H} {a k : Nat} {i : Int32} (hi : gz_inb h a k i = true) : ∃ n, h.1[a]? = some (k, n) ∧ vp_in i n := by
  unfold gz_inb at hi
  split at hi
  · rename_i kn e
    obtain ⟨k', n⟩ := kn
    simp at hi
    obtain ⟨⟨h1, h2⟩, h3⟩ := hi
    subst h1
    refine ⟨n, e, fun q => ?_⟩
    rcases q with q | q
    · exact absurd q (by simpa using h2)
    · omega
  · cases hi
theorem gz_inb_of {h : gz_H} {a k n : Nat} {i : Int32} (e : h.1[a]? = some (k, n)) (h0 : ¬ i < 0) (h1 : i.toNatClampNeg < n) : gz_inb h a k i = true := by
  unfold gz_inb
  rw [e]
  simp only [beq_self_eq_true, Bool.true_and, Bool.and_eq_true, Bool.not_eq_true', decide_eq_false_iff_not, decide_eq_true_eq]
  exact ⟨h0, h1⟩
theorem gz_ws_get {G : gz_G} {h : gz_H} {a : Nat} {kn : Nat × Nat} (ha : h.1[a]? = some kn) : (gz_ws G h)[a]? = some (G.1 + a, gz_E G kn (h.2.1 a) (h.2.2.1 a) (h.2.2.2 a)) := by
  have hl := (List.getElem?_eq_some_iff.mp ha).1
  unfold gz_ws
  rw [List.getElem?_map, List.getElem?_range hl]
  simp [List.getD, ha]
theorem gz_ws_inv {G : gz_G} {h : gz_H} {i : Nat} {q : Nat × va_E} (hq : (gz_ws G h)[i]? = some q) : q.1 = G.1 + i ∧ i < h.1.length := by
  unfold gz_ws at hq
  by_cases hl : i < h.1.length
  · rw [List.getElem?_map, List.getElem?_range hl] at hq
    cases hq
    exact ⟨rfl, hl⟩
  · have hn : (List.range h.1.length)[i]? = none := List.getElem?_eq_none (by rw [List.length_range]; omega)
    rw [List.getElem?_map, hn] at hq
    cases hq
theorem gz_wsD {G : gz_G} {h : gz_H} : va_D (gz_A G) (gz_ws G h) := by
  refine ⟨fun i j p q hp hq e => ?_, fun k q hq => ?_⟩
  · have h1 := (gz_ws_inv hp).1
    have h2 := (gz_ws_inv hq).1
    omega
  · have h1 := (gz_ws_inv hq).1
    show G.1 ≤ q.1
    omega
theorem gz_ws_set {G : gz_G} {h h' : gz_H} {a : Nat} {kn : Nat × Nat} (ha : h.1[a]? = some kn) (hs : h'.1 = h.1) (hI : ∀ b, b ≠ a → h'.2.1 b = h.2.1 b) (hL : ∀ b, b ≠ a → h'.2.2.1 b = h.2.2.1 b) (hR : ∀ b, b ≠ a → h'.2.2.2 b = h.2.2.2 b) :
    (gz_ws G h).set a (G.1 + a, gz_E G kn (h'.2.1 a) (h'.2.2.1 a) (h'.2.2.2 a)) = gz_ws G h' := by
  have hl := (List.getElem?_eq_some_iff.mp ha).1
  have hlen : (gz_ws G h).length = h.1.length := by simp [gz_ws]
  apply List.ext_getElem?
  intro k
  by_cases hk : k = a
  · subst hk
    rw [List.getElem?_set_self (by omega), gz_ws_get (h := h') (kn := kn) (by rw [hs]; exact ha)]
  · rw [List.getElem?_set_ne (Ne.symm hk)]
    by_cases hkl : k < h.1.length
    · have e1 : h.1[k]? = some h.1[k] := List.getElem?_eq_getElem hkl
      rw [gz_ws_get e1, gz_ws_get (h := h') (kn := h.1[k]) (by rw [hs]; exact e1), hI k hk, hL k hk, hR k hk]
    · rw [List.getElem?_eq_none (by omega), List.getElem?_eq_none (by simp [gz_ws, hs]; omega)]
theorem gz_ws_al {G : gz_G} {h : gz_H} {kn : Nat × Nat} : gz_ws G (gz_al h kn) = gz_ws G h ++ [(G.1 + h.1.length, gz_E G kn (fun _ => 0) (fun _ => 0) (fun _ => none))] := by
  have hlen : (gz_ws G h).length = h.1.length := by simp [gz_ws]
  apply List.ext_getElem?
  intro k
  by_cases hk : k < h.1.length
  · have e1 : h.1[k]? = some h.1[k] := List.getElem?_eq_getElem hk
    rw [List.getElem?_append_left (by omega), gz_ws_get e1]
    have e2 : (gz_al h kn).1[k]? = some h.1[k] := by
      show (h.1 ++ [kn])[k]? = _
      rw [List.getElem?_append_left hk]; exact e1
    rw [gz_ws_get e2]
    show some (G.1 + k, gz_E G h.1[k] (va_up h.2.1 h.1.length (fun _ => 0) k) (va_up h.2.2.1 h.1.length (fun _ => 0) k) (va_up h.2.2.2 h.1.length (fun _ => none) k)) = _
    rw [va_up_ne _ _ (by omega), va_up_ne _ _ (by omega), va_up_ne _ _ (by omega)]
  · by_cases hk2 : k = h.1.length
    · subst hk2
      rw [List.getElem?_append_right (by omega), hlen, Nat.sub_self]
      have e2 : (gz_al h kn).1[h.1.length]? = some kn := by
        show (h.1 ++ [kn])[h.1.length]? = _
        simp
      rw [gz_ws_get e2]
      show some (G.1 + h.1.length, gz_E G kn (va_up h.2.1 h.1.length (fun _ => 0) h.1.length) (va_up h.2.2.1 h.1.length (fun _ => 0) h.1.length) (va_up h.2.2.2 h.1.length (fun _ => none) h.1.length)) = _
      rw [va_up_self, va_up_self, va_up_self]
      rfl
    · rw [List.getElem?_eq_none (by simp [gz_ws, gz_al]; omega), List.getElem?_eq_none (by simp [gz_ws]; omega)]
/-- the heap of the machine holds the abstract one -/
def gz_Hr (G : gz_G) (h : gz_H) (H : Heap) : Prop := va_P G.2.2.2.2.2.1 gz_cl (gz_ws G h) H ∧ H.size = G.1 + h.1.length ∧ h.1.length < 1000000
/-- what holds at every method's entry, and stays -/
def gz_U (G : gz_G) (U : State) : Prop :=
  va_K G.2.2.2.2.2.1 gz_cl (gz_tys G) U ∧ (∀ w ∈ gz_NW, va_Nw w U) ∧ (va_AO RX2 U ∧ va_AO RX3 U ∧ (Cond.arrayOver (.array .int)).before #[] U = true) ∧
  (va_X G.2.1 G.2.2.2.1 G.2.2.2.2.1 U U.heap ∧ G.2.1 < G.1) ∧ va_Z RX8 "LETTERS" "[C" (.ref G.2.2.1) (gz_A G) U U.heap ∧ va_T .char G.2.2.1 6 gz_let (gz_A G) U U.heap ∧ G.1 ≤ U.heap.size
theorem gz_U.moved {G : gz_G} {s U : State} (hU : gz_U G s) (hW : s.WarmedH U.vm) (hz : s.heap.size ≤ U.heap.size) (hk : ∀ q : Nat, q < s.heap.size → ¬ gz_A G q → U.heap[q]? = s.heap[q]?) : gz_U G U := by
  obtain ⟨u1, u2, ⟨u3, u4, u5⟩, ⟨u6, u7⟩, u8, u9, u10⟩ := hU
  have hal := hW.alike
  refine ⟨va_K.moved hal u1, fun w hw => ?_, ⟨u3.moved hal, u4.moved hal, over_moved hal u5⟩, ⟨(u6.moved hal).kept (hk _ (by omega) (fun z => ?_)), u7⟩, (u8.moved hal).kept hk, (u9.moved hal).kept hk, by omega⟩
  · have h1 := u2 w hw
    have h2 := (List.mem_filter.mp hw).2
    cases w <;> first | exact va_Nw.warmF hW h1 | exact va_Nw.warmM hW h1 | (cases h2)
  · have z' : G.1 ≤ G.2.1 := z
    omega
/-- the state of a walk: heap, frame, cells and slots made so far -/
def gz_Y (G : gz_G) (B : gz_B) (h : gz_H) (s : State) (H : Heap) (locs : List Loc) (kc ks : Nat) : Prop :=
  gz_Hr G h H ∧ va_S (gz_A G) s.heap H locs ∧ kc + B.2.1 = h.1.length ∧ ks + B.2.2.1 = gz_ss h.1 ∧ h.1.length ≤ B.2.1 + B.2.2.2.1 ∧ gz_ss h.1 ≤ B.2.2.1 + B.2.2.2.2
def gz_nu (v : Value) : Prop := ∀ k, v ≠ .retAddr k
def gz_lo (G : gz_G) (M : gz_M) (ls : Array Slot) (lo : List Value) : Prop := ls.size = M.2.2.2.1 ∧ lv_wf ls ∧ ∀ (i : Nat) (v : Value), lo[i]? = some v → gz_nu v → ls[i]? = some (.val (gz_v G v))
def gz_rt (M : gz_M) (pc : Nat) (v : Option Value) : Prop := match v with
  | none => decode M.2.2.1 pc = .ok (.return_, 1) ∧ M.2.2.2.2 = none
  | some (.int x) => decode M.2.2.1 pc = .ok (.ireturn, 1) ∧ ∃ ty, M.2.2.2.2 = some ty ∧ narrow ty (.int x) = .int x
  | some (.long _) => decode M.2.2.1 pc = .ok (.lreturn, 1) ∧ M.2.2.2.2 = some .long
  | _ => False
def gz_X (G : gz_G) (M : gz_M) (B : gz_B) (Q : Option Value → gz_H → Prop) (p : Program) (l : Launch) (e : Env) (R : Room) (s : State) (m : MethodId) (args : Array Value) (below : List Frame) (meth : Method) (c : Code) (Z : State → Prop) : Prop :=
  (p.tables.exec = Jvm.exec ∧ c.code = M.2.2.1 ∧ c.maxLocals = M.2.2.2.1 ∧ s.vm.findClass M.1 = some m.cls ∧ ∀ w ∈ gz_TB, w.before args s = true) ∧ (M.2.1.name = "<init>" → meth.name = "<init>") ∧
  (B.1 ≤ R.frames ∧ 100 * B.1 ≤ R.locals ∧ B.2.2.2.1 ≤ R.cells ∧ B.2.2.2.2 ≤ R.slots) ∧ gz_U G s ∧
  ∀ (v : Option Value) (h' : gz_H) (H' : Heap) (locs' : List Loc) (ls' : Array Slot) (kc' ks' pc' : Nat), Q v h' → gz_Y G B h' s H' locs' kc' ks' → B.2.1 + B.2.2.2.1 ≤ h'.1.length → B.2.2.1 + B.2.2.2.2 ≤ gz_ss h'.1 → gz_rt M pc' v → W p l e R s m args below meth c H' locs' kc' ks' Z (F0 m pc' ls' (v.toList.map (gz_v G)))
/-- THE JUDGEMENT: from pc, with these locals, this stack, this heap, method M comes to its return with Q -/
def gz_Ok (G : gz_G) (M : gz_M) (B : gz_B) (pc : Nat) (lo st : List Value) (h : gz_H) (Q : Option Value → gz_H → Prop) : Prop :=
  ∀ (p : Program) (l : Launch) (e : Env) (R : Room) (s : State) (m : MethodId) (args : Array Value) (below : List Frame) (meth : Method) (c : Code) (Z : State → Prop), gz_X G M B Q p l e R s m args below meth c Z →
  ∀ (H : Heap) (locs : List Loc) (ls : Array Slot) (kc ks : Nat), gz_Y G B h s H locs kc ks → gz_lo G M ls lo → W p l e R s m args below meth c H locs kc ks Z (F0 m pc ls (st.map (gz_v G)))
def gz_rm (d mc ms : Nat) : Room := { frames := d, cells := mc, slots := ms, locals := 100 * d }
def gz_wsM (M : gz_M) : List Cond := Cond.code M.2.1 M.2.2.1 M.2.2.2.1 M.2.2.2.2 :: gz_TB
def gz_Pc (G : gz_G) (av : List Value) (h : gz_H) : Array Value → State → Prop := fun v U => v = (av.map (gz_v G)).toArray ∧ gz_U G U ∧ gz_Hr G h U.heap
def gz_Qc (G : gz_G) (h : gz_H) (mc ms : Nat) (Q : Option Value → gz_H → Prop) : Array Value → State → Outcome → State → Prop := fun _ st o t =>
  ∃ (v : Option Value) (h' : gz_H), o = .returned (v.map (gz_v G)) ∧ Q v h' ∧ gz_Hr G h' t.heap ∧ h'.1.length = h.1.length + mc ∧ gz_ss h'.1 = gz_ss h.1 + ms ∧ va_F (gz_A G) st t
/-- a call of M with these arguments at this heap comes back with Q -/
def gz_Cl (G : gz_G) (M : gz_M) (d mc ms : Nat) (av : List Value) (h : gz_H) (Q : Option Value → gz_H → Prop) : Prop :=
  ∀ l : Launch, Met l M.2.1 (gz_wsM M) (gz_rm d mc ms) (gz_Pc G av h) (gz_Qc G h mc ms Q) mc ms (gz_A G)
def gz_ent : List Value → List Value
  | [] => []
  | .long x :: l => .long x :: .retAddr 0 :: gz_ent l
  | .double x :: l => .double x :: .retAddr 0 :: gz_ent l
  | v :: l => v :: gz_ent l
theorem gz_cat (G : gz_G) (v : Value) : (gz_v G v).category = v.category := by cases v <;> rfl
theorem gz_ent_at (G : gz_G) : ∀ (av : List Value) (k i : Nat) (v : Value), (gz_ent av)[i]? = some v → gz_nu v → (k + i, gz_v G v) ∈ lv_args k (av.map (gz_v G)) := by
  intro av
  induction av with
  | nil => intro k i v h; simp [gz_ent] at h
  | cons w l ih =>
    intro k i v h hn
    have two : ∀ (x : Value), x.category = 2 → (x :: .retAddr 0 :: gz_ent l)[i]? = some v → (k + i, gz_v G v) ∈ lv_args k ((x :: l).map (gz_v G)) := by
      intro x hx h
      rw [List.map_cons, lv_args, gz_cat, if_pos hx]
      match i, h with
      | 0, h => cases h; exact List.mem_cons_self
      | 1, h => cases h; exact absurd rfl (hn 0)
      | i + 2, h =>
        have := ih (k + 2) i v h hn
        rw [show k + 2 + i = k + (i + 2) by omega] at this
        exact List.mem_cons_of_mem _ this
    have one : ∀ (x : Value), x.category ≠ 2 → (x :: gz_ent l)[i]? = some v → (k + i, gz_v G v) ∈ lv_args k ((x :: l).map (gz_v G)) := by
      intro x hx h
      rw [List.map_cons, lv_args, gz_cat, if_neg hx]
      match i, h with
      | 0, h => cases h; exact List.mem_cons_self
      | i + 1, h =>
        have := ih (k + 1) i v h hn
        rw [show k + 1 + i = k + (i + 1) by omega] at this
        exact List.mem_cons_of_mem _ this
    cases w with
    | long x => exact two _ rfl h
    | double x => exact two _ rfl h
    | int x => exact one _ (by simp [Value.category]) h
    | float x => exact one _ (by simp [Value.category]) h
    | null => exact one _ (by simp [Value.category]) h
    | ref x => exact one _ (by simp [Value.category]) h
    | retAddr x => exact one _ (by simp [Value.category]) h
theorem gz_ent_sl (G : gz_G) (av : List Value) : (lg_sl (av.map (gz_v G))).length = (gz_ent av).length := by
  induction av with
  | nil => rfl
  | cons w l ih =>
    have e : lg_sl ((w :: l).map (gz_v G)) = (if (gz_v G w).category = 2 then [Slot.val (gz_v G w), .second] else [.val (gz_v G w)]) ++ lg_sl (l.map (gz_v G)) := by
      simp [lg_sl]
    rw [e, List.length_append, ih, gz_cat]
    cases w <;> simp [Value.category, gz_ent] <;> omega
theorem gz_U.calling {G : gz_G} {U : State} {g : JFrame} {mk : MethodId} {a : Array Value} (h : gz_U G U) : gz_U G (U.calling g mk a) :=
  h.moved (U := U.calling g mk a) (State.WarmedH.refl U) (Nat.le_refl _) (fun _ _ _ => rfl)
set_option maxHeartbeats 1000000 in
/-- a method's contract out of its walk -/
theorem gz_cl_of {G : gz_G} {M : gz_M} {d mc ms : Nat} {av : List Value} {h : gz_H} {Q : Option Value → gz_H → Prop} (hp : plainName M.2.1.cls = true) (hown : M.2.1.cls = M.1) {lo : List Value} (hlo : gz_ent av ++ List.replicate (M.2.2.2.1 - (gz_ent av).length) (.retAddr 0) = lo) (hle : (gz_ent av).length ≤ M.2.2.2.1)
    (k : gz_Ok G M (d, h.1.length, gz_ss h.1, mc, ms) 0 lo [] h Q) : gz_Cl G M d mc ms av h Q := by
  intro l
  refine Met.ofW (cc := M.2.2.1) (maxL := M.2.2.2.1) (ret := M.2.2.2.2) hp rfl ?_
  intro p e s m args below meth c s₁ Bd hml hv
  obtain ⟨rfl, hU, hHr⟩ := hv
  have hts := atoms_spec (ws := gz_wsM M) Bd.pre
  have hfc : s.vm.findClass M.2.1.cls = some m.cls := findClass_of_methodNamed Bd.named
  have hnm : meth.name = M.2.1.name := (name_of_methodNamed Bd.named Bd.method).1
  have hl := lv_entry (av.map (gz_v G)) (n := M.2.2.2.1) (by rw [gz_ent_sl]; exact hle)
  rw [lg_entry_eq]
  refine k p l e (gz_rm d mc ms) s m (av.map (gz_v G)).toArray below meth c _ ⟨⟨Bd.exec, Bd.bytes, hml, by rw [← hown]; exact hfc, fun w hw => hts w (List.mem_cons_of_mem _ hw)⟩, fun z => hnm.trans z, ⟨Nat.le_refl _, Nat.le_refl _, Nat.le_refl _, Nat.le_refl _⟩, hU, ?_⟩ s.heap [] _ 0 0 ⟨hHr, va_S.rf, by simp, by simp, by simp, by simp⟩ ?_
  · intro v h' H' locs' ls' kc' ks' pc' hQ hY hc1 hc2 hrt
    obtain ⟨y1, y2, y3, y4, y5, y6⟩ := hY
    have e1 : kc' = mc := by simp only at y3 y5 hc1; omega
    have e2 : ks' = ms := by simp only at y4 y6 hc2; omega
    subst e1
    subst e2
    have hq : ∀ t : State, t.heap = H' → gz_Qc G h kc' ks' Q (av.map (gz_v G)).toArray s (.returned (v.map (gz_v G))) t := fun t ht =>
      ⟨v, h', rfl, hQ, by rw [ht]; exact y1, by simp only at y3; omega, by simp only at y4; omega, y2.F ht⟩
    match v, hrt, hq with
    | none, hrt, hq => exact W.vret Bd.exec Bd.bytes (Bd.returns.trans hrt.2) (fun t ht _ => hq t ht) y2.2.2 hrt.1 Bd.notSynchronized
    | some (.int x), ⟨hd, ty, hty, hn⟩, hq => exact W.zret Bd.exec Bd.bytes (Bd.returns.trans hty) hn (fun t ht _ => hq t ht) y2.2.2 hd Bd.notSynchronized
    | some (.long x), hrt, hq => exact W.lret Bd.exec Bd.bytes (Bd.returns.trans hrt.2) (fun t ht _ => hq t ht) y2.2.2 hrt.1 Bd.notSynchronized
    | some (.ref _), hrt, _ => exact absurd hrt (by simp [gz_rt])
    | some .null, hrt, _ => exact absurd hrt (by simp [gz_rt])
    | some (.float _), hrt, _ => exact absurd hrt (by simp [gz_rt])
    | some (.double _), hrt, _ => exact absurd hrt (by simp [gz_rt])
    | some (.retAddr _), hrt, _ => exact absurd hrt (by simp [gz_rt])
  · refine ⟨hl.1, hl.2.1, fun i v hi hn => ?_⟩
    rw [← hlo] at hi
    by_cases hil : i < (gz_ent av).length
    · rw [List.getElem?_append_left hil] at hi
      have := gz_ent_at G av 0 i v hi hn
      rw [Nat.zero_add] at this
      exact hl.2.2 _ this
    · rw [List.getElem?_append_right (by omega)] at hi
      have := List.eq_of_mem_replicate (List.mem_of_getElem? hi)
      exact absurd this (hn 0)
