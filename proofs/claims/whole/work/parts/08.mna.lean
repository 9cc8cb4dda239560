/-! new int[n][k]: the model's own 'make', walked here: the state after i of the inner arrays is mn_s .. i -/
def mn_o (cA : ClassId) (N z i : Nat) : Cell := arrV cA N (fun j => va_rf (if j < i then some (z + 1 + j) else none))
def mn_i (cI : ClassId) (K : Nat) : Cell := arrV cI K (fun _ => .int 0)
theorem mn_o0 (cA : ClassId) (N z : Nat) : ({ cls := cA, slots := Array.replicate N .null, vm := .none } : Cell) = mn_o cA N z 0 := by
  rw [arrV_new]
  exact congrArg (arrV cA N) (funext fun j => by simp [va_rf])
theorem mn_oS (cA : ClassId) (N z i : Nat) : (mn_o cA N z i).setSlot i (.ref (z + 1 + i)) = mn_o cA N z (i + 1) := by
  unfold mn_o
  rw [arrV_store]
  refine congrArg (arrV cA N) (funext fun j => ?_)
  rcases Nat.lt_trichotomy j i with h | h | h
  · simp [updV, Nat.ne_of_lt h, h, Nat.lt_succ_of_lt h]
  · subst h
    simp [updV, va_rf]
  · simp [updV, Nat.ne_of_gt h, show ¬ j < i by omega, show ¬ j < i + 1 by omega]
def mn_s (T : State) (cA cI : ClassId) (N K : Nat) : Nat → State
  | 0 => T.pushCell (mn_o cA N T.heap.size 0)
  | i + 1 => ((mn_s T cA cI N K i).pushCell (mn_i cI K)).setCell T.heap.size (mn_o cA N T.heap.size (i + 1))
def mn_F (T : State) (cA cI : ClassId) (N K i : Nat) : Prop :=
  (mn_s T cA cI N K i).heap.size = T.heap.size + 1 + i ∧ (mn_s T cA cI N K i).heap[T.heap.size]? = some (mn_o cA N T.heap.size i) ∧ (∀ x, x < T.heap.size → (mn_s T cA cI N K i).heap[x]? = T.heap[x]?) ∧
  (∀ j, j < i → (mn_s T cA cI N K i).heap[T.heap.size + 1 + j]? = some (mn_i cI K)) ∧ (mn_s T cA cI N K i).vm = T.vm ∧ (mn_s T cA cI N K i).slotsUsed = T.slotsUsed + N + i * K
theorem mn_facts (T : State) (cA cI : ClassId) (N K : Nat) : ∀ i, mn_F T cA cI N K i := by
  intro i
  induction i with
  | zero =>
    refine ⟨by simp [mn_s], by simp [mn_s], fun x hx => ?_, fun j h => absurd h (Nat.not_lt_zero _), rfl, ?_⟩
    · show (T.pushCell _).heap[x]? = _
      exact State.heap_pushCell_of_lt _ _ hx
    · simp [mn_s, mn_o, arrV]
  | succ i ih =>
    obtain ⟨a1, a2, a3, a4, a5, a6⟩ := ih
    have hlt : T.heap.size < (mn_s T cA cI N K i).heap.size := by omega
    have hin : ((mn_s T cA cI N K i).pushCell (mn_i cI K)).heap[T.heap.size]? = some (mn_o cA N T.heap.size i) := by
      rw [State.heap_pushCell_of_lt (h := hlt)]
      exact a2
    refine ⟨?_, State.heap_setCell_self hin, fun x hx => ?_, fun j hj => ?_, ?_, ?_⟩
    · simp [mn_s, State.setCell, a1]
      omega
    · show (((mn_s T cA cI N K i).pushCell (mn_i cI K)).setCell T.heap.size _).heap[x]? = _
      have hx2 : x < (mn_s T cA cI N K i).heap.size := by omega
      rw [State.heap_setCell_other (Nat.ne_of_gt hx), State.heap_pushCell_of_lt (h := hx2)]
      exact a3 x hx
    · show (((mn_s T cA cI N K i).pushCell (mn_i cI K)).setCell T.heap.size _).heap[T.heap.size + 1 + j]? = _
      rw [State.heap_setCell_other (show T.heap.size ≠ T.heap.size + 1 + j by omega)]
      rcases Nat.lt_or_ge j i with h | h
      · have hj2 : T.heap.size + 1 + j < (mn_s T cA cI N K i).heap.size := by omega
        rw [State.heap_pushCell_of_lt (h := hj2)]
        exact a4 j h
      · have e : T.heap.size + 1 + j = (mn_s T cA cI N K i).heap.size := by omega
        rw [e]
        exact State.heap_pushCell_size _ _
    · show ((mn_s T cA cI N K i).pushCell (mn_i cI K)).vm = _
      exact a5
    · simp [mn_s, a6, mn_i, arrV, Nat.succ_mul]
      omega
theorem mn_top (T : State) (f : JFrame) (cA cI : ClassId) (N K : Nat) : ∀ i, mn_s (T.setTop f) cA cI N K i = (mn_s T cA cI N K i).setTop f := by
  intro i
  induction i with
  | zero => rfl
  | succ i ih =>
    show ((mn_s (T.setTop f) cA cI N K i).pushCell _).setCell _ _ = _
    rw [ih]
    simp only [State.heap_setTop, State.pushCell_setTop, State.setCell_setTop]
    rfl
theorem mn_stand {p : Program} {l : Launch} {e : Env} {R : Room} {s : State} {m : MethodId} {args : Array Value} {below : List Frame} {meth : Method} {c : Code} {T : State} {locs : List Loc} {cells slots : Nat}
    (X : Stand p l e R s m args below meth c T locs cells slots) (cA cI : ClassId) (N K : Nat) : ∀ i, ∃ ex : List Loc, (∀ q ∈ ex, q.base = T.heap.size) ∧ Stand p l e R s m args below meth c (mn_s T cA cI N K i) (locs ++ ex) (cells + (1 + i)) (slots + (N + i * K)) := by
  intro i
  induction i with
  | zero =>
    refine ⟨[], (fun q h => by cases h), ?_⟩
    have h := X.pushed (mn_o cA N T.heap.size 0)
    have hz : (mn_o cA N T.heap.size 0).slots.size = N := by simp [mn_o, arrV]
    rw [hz] at h
    simpa [mn_s] using h
  | succ i ih =>
    obtain ⟨ex, hex, Xi⟩ := ih
    obtain ⟨a1, a2, a3, a4, a5, a6⟩ := mn_facts T cA cI N K i
    have hlt : T.heap.size < (mn_s T cA cI N K i).heap.size := by omega
    have hcell : ((mn_s T cA cI N K i).pushCell (mn_i cI K)).heap[T.heap.size]? = some (mn_o cA N T.heap.size i) := by
      rw [State.heap_pushCell_of_lt (h := hlt)]
      exact a2
    have h := (Xi.pushed (mn_i cI K)).stored hcell i (.ref (T.heap.size + 1 + i))
    rw [mn_oS] at h
    have hz : (mn_i cI K).slots.size = K := by simp [mn_i, arrV]
    rw [hz] at h
    refine ⟨ex ++ [⟨T.heap.size, i⟩], fun q hq => ?_, ?_⟩
    · rcases List.mem_append.mp hq with q1 | q1
      · exact hex q q1
      · rw [List.mem_singleton.mp q1]
    · have e1 : cells + (1 + (i + 1)) = cells + (1 + i) + 1 := by omega
      have e2 : slots + (N + (i + 1) * K) = slots + (N + i * K) + K := by rw [Nat.succ_mul]; omega
      rw [e1, e2, ← List.append_assoc]
      exact h
section
variable {E : CtlPost} {e : Env} {d : Bool} {acts : List Action} {s : State}
/-- one array of the machine's, all defaults -/
theorem mn_one {c comp : ClassId} {k : Class} {type : FieldType} {len : Nat} {init : Value} (hk : s.vm.classes[c]? = some k) (hkind : k.kind = .array comp type) (hl : ¬ len > e.platform.arrayLengthLimit) (hh : ¬ len * componentBytes type > e.platform.maxHeapBytes) (hfit : fits type init = true) (hdef : init.isDefault = true)
    (h1 : s.heap.size < e.platform.maxCells) (h2 : s.slotsUsed + len ≤ e.platform.maxSlots) {Q : Addr → Pre} (hq : Q s.heap.size d acts (s.pushCell (arrV c len (fun _ => init)))) : wp (Jvm.newArray c len init) Q E e d acts s := by
  have hall : ((Array.replicate len init).all (·.isDefault)) = true := by
    rw [Array.all_replicate]
    split <;> simp [hdef]
  have hacts : allocActs (Array.replicate len init) s.heap.size acts = acts := by
    unfold allocActs
    rw [if_pos hall]
  rw [← arrV_new] at hq
  simp only [Jvm.newArray, Jvm.arrayFits, wp_bind', W.ask, W.ite, hl, if_false, wp_pure', W.theClass, hk, hkind, hh, W.alloc, W.stop, Option.some.injEq, exists_eq_left', Array.size_replicate, hacts]
  rw [if_neg (by omega)]
  refine ⟨h1, h2, fun i v hv => ?_, hq⟩
  simp only [Array.getElem?_replicate] at hv
  split at hv
  · cases hv
    simp [State.fitsSlot, State.slotType?, hk, hkind, hfit]
  · cases hv
/-- make c [n, k] -/
theorem mn_make {cA cI cc : ClassId} {kA kI : Class} {n k : Int32} (hkA : s.vm.classes[cA]? = some kA) (hkindA : kA.kind = .array cI (.array .int)) (hkI : s.vm.classes[cI]? = some kI) (hkindI : kI.kind = .array cc .int) (hn : ¬ n < 0) (hk : ¬ k < 0)
    (hl1 : ¬ n.toNatClampNeg > e.platform.arrayLengthLimit) (hh1 : ¬ n.toNatClampNeg * 4 > e.platform.maxHeapBytes) (hl2 : ¬ k.toNatClampNeg > e.platform.arrayLengthLimit) (hh2 : ¬ k.toNatClampNeg * 4 > e.platform.maxHeapBytes)
    (hc : s.heap.size + 1 + n.toNatClampNeg ≤ e.platform.maxCells) (hs : s.slotsUsed + n.toNatClampNeg + n.toNatClampNeg * k.toNatClampNeg ≤ e.platform.maxSlots)
    {Q : Addr → Pre} (hq : ∀ d' acts', Q s.heap.size d' acts' (mn_s s cA cI n.toNatClampNeg k.toNatClampNeg n.toNatClampNeg)) : wp (multianewarray.make cA [n, k]) Q E e d acts s := by
  generalize hN : n.toNatClampNeg = N at *
  generalize hK : k.toNatClampNeg = K at *
  have hfind : ([k].find? (· < 0)) = none := by simp [hk]
  rw [multianewarray.make]
  simp only [wp_bind', W.ite, hn, if_false, wp_pure', W.theClass, hkA, hkindA, Option.some.injEq, exists_eq_left', hN]
  have hnk : 0 ≤ N * K := Nat.zero_le _
  refine mn_one (type := .array .int) hkA hkindA hl1 hh1 rfl rfl (by omega) (by omega) ?_
  rw [← arrV_new, mn_o0 cA N s.heap.size]
  simp only [hfind]
  rw [ite_self, wp_bind', Std.Legacy.Range.forIn_eq_forIn_range']
  have hsz : ([:N] : Std.Legacy.Range).size = N := by simp [Std.Legacy.Range.size]
  rw [hsz]
  show wp (forIn (List.range' 0 N 1) PUnit.unit _) _ E e d acts _
  refine wp_forIn_inv (fun rest s' => ∃ i, i ≤ N ∧ rest = List.range' i (N - i) ∧ s' = mn_s s cA cI N K i) _ _ ⟨0, Nat.zero_le _, rfl, rfl⟩ ?_ ?_
  · intro x rest s' d' acts' Q' hI hnext
    obtain ⟨i, hi, hl, rfl⟩ := hI
    have hlt : i < N := by
      rcases Nat.lt_or_ge i N with h | h
      · exact h
      · rw [show N - i = 0 by omega] at hl
        cases hl
    rw [show N - i = (N - (i + 1)) + 1 by omega, List.range'_succ] at hl
    obtain ⟨rfl, rfl⟩ := List.cons.inj hl
    obtain ⟨a1, a2, a3, a4, a5, a6⟩ := mn_facts s cA cI N K x
    have hmul : x * K + K ≤ N * K := by
      rw [← Nat.succ_mul]
      exact Nat.mul_le_mul_right K hlt
    simp only [wp_bind']
    rw [multianewarray.make]
    simp only [wp_bind', W.ite, hk, if_false, wp_pure', W.theClass, a5, hkI, hkindI, Option.some.injEq, exists_eq_left', hK]
    refine mn_one (type := .int) (by rw [a5]; exact hkI) hkindI hl2 hh2 rfl rfl (by omega) (by omega) ?_
    simp only [wp_bind', W.writeLoc, wp_pure']
    have hlt0 : s.heap.size < (mn_s s cA cI N K x).heap.size := by omega
    refine ⟨mn_o cA N s.heap.size x, (by rw [State.heap_pushCell_of_lt (h := hlt0)]; exact a2), (fun h => by cases h), (by simp [mn_o, arrV]; exact hlt), ?_, hnext _ _ _ ⟨x + 1, hlt, rfl, ?_⟩⟩
    · show State.fitsSlot _ cA .none x (.ref _) = true
      simp [State.fitsSlot, State.slotType?, a5, hkA, hkindA]
      rfl
    · show _ = ((mn_s s cA cI N K x).pushCell (mn_i cI K)).setCell s.heap.size (mn_o cA N s.heap.size (x + 1))
      rw [← mn_oS, a1]
      rfl
  · intro s' d' acts' hI
    obtain ⟨i, hi, hl, rfl⟩ := hI
    have hiN : i = N := by
      rcases Nat.lt_or_ge i N with h | h
      · rw [show N - i = (N - (i + 1)) + 1 by omega, List.range'_succ] at hl
        cases hl
      · omega
    subst hiN
    simp only [wp_pure']
    exact hq _ _
end
set_option maxHeartbeats 2000000 in
theorem mn_go {p : Program} {l : Launch} {e : Env} {R : Room} {s : State} {m : MethodId} {args : Array Value} {below : List Frame} {meth : Method} {c : Code} {T : State} {locs : List Loc} {cells slots : Nat}
    (X : Stand p l e R s m args below meth c T locs cells slots) (hexec : p.tables.exec = Jvm.exec) {own : String} {index : Nat} (hown : s.vm.findClass own = some m.cls) (hclink : (Cond.classLink own index ("[" ++ (FieldType.array .int).toString)).before args s = true)
    (hover : (Cond.arrayOver (.array .int)).before args s = true) (harr : (Cond.arrayClass .int).before args s = true) {g : JFrame} (hg : g.method = m) (hdg : decode c.code g.pc = .ok (.multianewarray index 2, 4)) {n k : Int32} {rest : List Value} (hstack : g.stack = .int k :: .int n :: rest)
    (hn : ¬ n < 0) (hk : ¬ k < 0) (hb1 : n.toNatClampNeg ≤ 1000) (hb2 : k.toNatClampNeg ≤ 1000) (hcells : cells + (1 + n.toNatClampNeg) ≤ R.cells) (hslots : slots + (n.toNatClampNeg + n.toNatClampNeg * k.toNatClampNeg) ≤ R.slots) :
    ∃ (vm₁ : Vm) (cA cI : ClassId) (ex : List Loc), s.vm.findClass ("[" ++ (FieldType.array .int).toString) = some cA ∧ s.vm.findClass (FieldType.array .int).toString = some cI ∧ (∀ q ∈ ex, q.base = T.heap.size) ∧
      Stand p l e R s m args below meth c (mn_s (T.setVm vm₁) cA cI n.toNatClampNeg k.toNatClampNeg n.toNatClampNeg) (locs ++ ex) (cells + (1 + n.toNatClampNeg)) (slots + (n.toNatClampNeg + n.toNatClampNeg * k.toNatClampNeg)) ∧
      ∀ target, Steps p.tables e below ((mn_s (T.setVm vm₁) cA cI n.toNatClampNeg k.toNatClampNeg n.toNatClampNeg).setTop { g with pc := g.pc + 4, stack := .ref T.heap.size :: rest }) target → Steps p.tables e below (T.setTop g) target := by
  subst hg
  have hpl : e.platform.magicAccessors = ({} : Platform).magicAccessors := by rw [X.admits.platform]
  obtain ⟨cI, cA, kA, hcI, -, hkA, hkindA, hnA⟩ := arrayOverA_spec hover
  obtain ⟨cI', kI, cc, hcI', hkI, hkindI⟩ := Cond.arrayClass_spec harr
  have ecI : cI' = cI := Option.some.inj (hcI'.symm.trans hcI)
  subst ecI
  obtain ⟨c0, hfc0, hcl⟩ := Cond.classLink_spec hown hclink e.platform hpl
  cases hnA.symm.trans hfc0
  obtain ⟨hg₁, hwarm₁, hready₁⟩ := State.classEntry (e := e) X.warmed hcl
  generalize T.vm.noted g.method.cls index (.cls cA) = vm₁ at hg₁ hwarm₁ hready₁
  obtain ⟨kA₁, hkA₁, heA⟩ := hwarm₁.alike.2.2 _ _ hkA
  obtain ⟨kI₁, hkI₁, heI⟩ := hwarm₁.alike.2.2 _ _ hkI
  have X₁ := X.noted hwarm₁
  obtain ⟨ex, hex, XF⟩ := mn_stand X₁ cA cI' n.toNatClampNeg k.toNatClampNeg n.toNatClampNeg
  obtain ⟨hr1, hr2⟩ := X.roomAbove hcells hslots
  refine ⟨vm₁, cA, cI', ex, hnA, hcI, hex, XF, fun target hrest => ?_⟩
  have hl1 : ¬ n.toNatClampNeg > e.platform.arrayLengthLimit := by rw [Launch.admits_arrayLengthLimit X.admits]; omega
  have hh1 : ¬ n.toNatClampNeg * 4 > e.platform.maxHeapBytes := by rw [Launch.admits_maxHeapBytes X.admits]; omega
  have hl2 : ¬ k.toNatClampNeg > e.platform.arrayLengthLimit := by rw [Launch.admits_arrayLengthLimit X.admits]; omega
  have hh2 : ¬ k.toNatClampNeg * 4 > e.platform.maxHeapBytes := by rw [Launch.admits_maxHeapBytes X.admits]; omega
  jvm_step X.here [hexec, hdg]
  simp only [multianewarray.sem, wp_bind', W.resolveClassAt_links (State.method?_setTop g X.here.top) hg₁]
  rw [W.popN, if_neg (by decide)]
  refine ⟨g, State.topJava?_setTop' (s := T.setVm vm₁) g X.here.top, [.int n, .int k], rest, rfl, hstack, ?_⟩
  simp only [List.mapM_cons, List.mapM_nil, wp_bind', wp_pure']
  have eS : ((T.setTop g).setVm vm₁).setTop { g with stack := rest } = (T.setVm vm₁).setTop { g with stack := rest } := by
    show ((T.setVm vm₁).setTop g).setTop _ = _
    rw [State.setTop_setTop]
  rw [eS]
  refine mn_make (kA := kA₁) (kI := kI₁) (cI := cI') (cc := cc) hkA₁ (by rw [heA]; exact hkindA) hkI₁ (by rw [heI]; exact hkindI) hn hk hl1 hh1 hl2 hh2 (by show T.heap.size + 1 + _ ≤ _; omega) (by show T.slotsUsed + _ + _ ≤ _; omega) (fun d' acts' => ?_)
  rw [mn_top]
  simp only [wp_bind', W.mark, W.pushRef, State.topJava?_setTop' _ XF.here.top, Option.some.injEq, exists_eq_left', State.setTop_setTop, State.heap_setTop]
  intro acts
  simp [jvm, XF.here.top]
  exact hrest
/-- new int[n][k]: the outer array, then n inner ones -/
def gz_als (h : gz_H) (kn : Nat × Nat) : Nat → gz_H
  | 0 => h
  | n + 1 => gz_al (gz_als h kn n) kn
theorem gz_als_1 (h : gz_H) (kn : Nat × Nat) : ∀ n, (gz_als h kn n).1 = h.1 ++ List.replicate n kn
  | 0 => by simp [gz_als]
  | n + 1 => by
    show (gz_als h kn n).1 ++ [kn] = _
    rw [gz_als_1 h kn n, List.append_assoc, List.replicate_succ']
def gz_mn (h : gz_H) (n k : Nat) : gz_H := match gz_als (gz_al h (13, n)) (10, k) n with
  | g => (g.1, g.2.1, g.2.2.1, va_up g.2.2.2 h.1.length (fun i => if i < n then some (h.1.length + 1 + i) else none))
theorem gz_als_ws (G : gz_G) (h : gz_H) (kn : Nat × Nat) : ∀ n, gz_ws G (gz_als h kn n) = gz_ws G h ++ (List.range n).map (fun i => (G.1 + (h.1.length + i), gz_E G kn (fun _ => 0) (fun _ => 0) (fun _ => none)))
  | 0 => by simp [gz_als]
  | n + 1 => by
    show gz_ws G (gz_al (gz_als h kn n) kn) = _
    rw [gz_ws_al, gz_als_ws G h kn n, gz_als_1, List.range_succ, List.map_append, List.append_assoc]
    simp
set_option maxHeartbeats 2000000 in
theorem gz_mna {G : gz_G} {M : gz_M} {B : gz_B} {pc : Nat} {lo st : List Value} {h : gz_H} {Q : Option Value → gz_H → Prop} {n k : Int32} {idx : Nat} (hd : decode M.2.2.1 pc = .ok (.multianewarray idx 2, 4)) (hw : Cond.classLink M.1 idx ("[" ++ (FieldType.array .int).toString) ∈ gz_TB) (hw2 : Cond.arrayClass .int ∈ gz_TB) (hn : ¬ n < 0) (hk : ¬ k < 0) (hN : n.toNatClampNeg ≤ 1000) (hK1 : k.toNatClampNeg ≤ 1000) (hm : h.1.length < 900000)
    (hb : h.1.length + (1 + n.toNatClampNeg) ≤ B.2.1 + B.2.2.2.1 ∧ gz_ss h.1 + (n.toNatClampNeg + n.toNatClampNeg * k.toNatClampNeg) ≤ B.2.2.1 + B.2.2.2.2)
    (kk : gz_Ok G M B (pc + 4) lo (.ref h.1.length :: st) (gz_mn h n.toNatClampNeg k.toNatClampNeg) Q) : gz_Ok G M B pc lo (.int k :: .int n :: st) h Q := by
  intro p l e R s m args below meth c Z X H locs ls kc ks Y hl
  have hroom := gz_room (mc := 1 + n.toNatClampNeg) (ms := n.toNatClampNeg + n.toNatClampNeg * k.toNatClampNeg) Y X.2.2.1 hb
  have hsz := Y.1.2.1
  have hlt := Y.1.2.2
  have hKK := X.2.2.2.1.1
  have hts := X.1.2.2.2.2
  intro T hT Xs
  obtain ⟨vm₁, cA, cI, ex, fA, fC, hex, X', step⟩ := mn_go Xs X.1.1 X.1.2.2.2.1 (hts _ hw) (over_moved (a := #[]) (a' := args) (Vm.Alike.refl s.vm) X.2.2.2.1.2.2.1.2.2) (hts _ hw2) (g := F0 m pc ls (.int k :: .int n :: st.map (gz_v G))) rfl (by rw [X.1.2.1]; exact hd) rfl hn hk hN hK1 hroom.1 hroom.2
  have hcA : cA = G.2.2.2.2.2.2 13 := Option.some.inj (fA.symm.trans (hKK.2 3 _ rfl).2)
  have hcI : cI = G.2.2.2.2.2.2 10 := gz_cA hKK fC
  subst hcA
  subst hcI
  generalize hNN : n.toNatClampNeg = N at *
  generalize hkk : k.toNatClampNeg = K at *
  have hTh : (T.setVm vm₁).heap = H := hT
  obtain ⟨f1, f2, hold, hrow, -, -⟩ := mn_facts (T.setVm vm₁) (G.2.2.2.2.2.2 13) (G.2.2.2.2.2.2 10) N K N
  rw [hTh] at f1 f2 hold hrow
  generalize mn_s (T.setVm vm₁) (G.2.2.2.2.2.2 13) (G.2.2.2.2.2.2 10) N K N = F at *
  have hws : gz_ws G (gz_mn h N K) = gz_ws G h ++ ((G.1 + h.1.length, gz_E G (13, N) (fun _ => 0) (fun _ => 0) (fun i => if i < N then some (h.1.length + 1 + i) else none)) :: (List.range N).map (fun i => (G.1 + (h.1.length + 1 + i), gz_E G (10, K) (fun _ => 0) (fun _ => 0) (fun _ => none)))) := by
    have hs : (gz_al h (13, N)).1[h.1.length]? = some (13, N) := by
      show (h.1 ++ [(13, N)])[h.1.length]? = _
      simp
    have hs2 : (gz_als (gz_al h (13, N)) (10, K) N).1[h.1.length]? = some (13, N) := by
      rw [gz_als_1, List.getElem?_append_left (by simp [gz_al])]
      exact hs
    have hd0 : ∀ j, (gz_als (gz_al h (13, N)) (10, K) j).2.1 h.1.length = (fun _ => 0) ∧ (gz_als (gz_al h (13, N)) (10, K) j).2.2.1 h.1.length = (fun _ => 0) := by
      intro j
      induction j with
      | zero => exact ⟨va_up_self _ _ _, va_up_self _ _ _⟩
      | succ j ih =>
        have hne : h.1.length ≠ (gz_als (gz_al h (13, N)) (10, K) j).1.length := by
          rw [gz_als_1]
          simp [gz_al]
        exact ⟨(va_up_ne _ _ hne).trans ih.1, (va_up_ne _ _ hne).trans ih.2⟩
    have hset := gz_ws_set (G := G) (h := gz_als (gz_al h (13, N)) (10, K) N) (h' := gz_mn h N K) hs2 rfl (fun _ _ => rfl) (fun _ _ => rfl) (fun b hb => va_up_ne _ _ hb)
    have er : (gz_mn h N K).2.2.2 h.1.length = (fun i => if i < N then some (h.1.length + 1 + i) else none) := va_up_self _ _ _
    have ei : (gz_mn h N K).2.1 h.1.length = (fun _ => 0) := (hd0 N).1
    have el : (gz_mn h N K).2.2.1 h.1.length = (fun _ => 0) := (hd0 N).2
    rw [er, ei, el] at hset
    rw [← hset, gz_als_ws, gz_ws_al, List.append_assoc]
    have hl0 : (gz_ws G h).length = h.1.length := by simp [gz_ws]
    rw [List.set_append_right _ _ (by omega), hl0, Nat.sub_self]
    have hl1 : (gz_al h (13, N)).1.length = h.1.length + 1 := by simp [gz_al]
    rw [hl1]
    rfl
  have hl1 : (gz_mn h N K).1 = h.1 ++ (13, N) :: List.replicate N (10, K) := by
    show (gz_als (gz_al h (13, N)) (10, K) N).1 = _
    rw [gz_als_1]
    show (h.1 ++ [(13, N)]) ++ _ = _
    simp
  have hlen : (gz_mn h N K).1.length = h.1.length + (1 + N) := by
    rw [hl1]
    simp
    omega
  have hrep : ∀ j, gz_ss (List.replicate j (10, K)) = j * K := by
    intro j
    induction j with
    | zero => simp [gz_ss]
    | succ j ih =>
      rw [List.replicate_succ]
      show K + gz_ss (List.replicate j (10, K)) = _
      rw [ih, Nat.succ_mul]
      omega
  have hss : gz_ss (gz_mn h N K).1 = gz_ss h.1 + (N + N * K) := by
    rw [hl1, gz_ss_app]
    show gz_ss h.1 + (N + gz_ss (List.replicate N (10, K))) = _
    rw [hrep]
  have hout : mn_o (G.2.2.2.2.2.2 13) N H.size N = vp_cell (G.2.2.2.2.2.2 13) (N, .inr (.inr (.inr (.inr (fun i => (if i < N then some (h.1.length + 1 + i) else none : Option Nat).map (gz_r G)))))) := by
    rw [vp_cell_q]
    refine congrArg (arrV _ N) (funext fun j => ?_)
    by_cases h9 : j < N
    · simp only [if_pos h9, Option.map_some]
      have : gz_r G (h.1.length + 1 + j) = H.size + 1 + j := by
        unfold gz_r
        rw [if_pos (by omega), hsz]
        omega
      rw [this]
    · simp [if_neg h9]
  rw [hout] at f2
  have hP' : va_P G.2.2.2.2.2.1 gz_cl (gz_ws G (gz_mn h N K)) F.heap := by
    rw [hws]
    refine (Y.1.1.kept (fun k9 x hx => hold x.1 ((Y.1.1 k9 x hx).lt))).app (fun k9 x hx => ?_)
    match k9, hx with
    | 0, hx =>
      cases hx
      rw [gz_E_ref (Or.inr (Or.inr rfl)), ← hsz]
      exact f2
    | k9 + 1, hx =>
      have hx : ((List.range N).map (fun i => (G.1 + (h.1.length + 1 + i), gz_E G (10, K) (fun _ => 0) (fun _ => 0) (fun _ => none))))[k9]? = some x := hx
      rw [List.getElem?_map] at hx
      by_cases h9 : k9 < N
      · rw [List.getElem?_range h9] at hx
        cases hx
        rw [gz_E_int]
        show F.heap[G.1 + (h.1.length + 1 + k9)]? = some (vp_cell _ _)
        rw [show G.1 + (h.1.length + 1 + k9) = H.size + 1 + k9 by omega]
        exact hrow k9 h9
      · rw [List.getElem?_eq_none (by rw [List.length_range]; omega)] at hx
        cases hx
  obtain ⟨y1, y4, y5, y6, y7, y8⟩ := Y
  have hrr : gz_r G h.1.length = H.size := by
    unfold gz_r
    rw [if_pos hlt, hsz]
  have hfs : F.heap.size = H.size + (1 + N) := by rw [f1]; omega
  have kW := kk p l e R s m args below meth c Z X F.heap (locs ++ ex) ls (kc + (1 + N)) (ks + (N + N * K)) ⟨⟨hP', by rw [hfs, hlen]; omega, by rw [hlen]; omega⟩, ⟨Nat.le_trans y4.1 (by omega), fun x h1 h2 => (hold x (Nat.lt_of_lt_of_le h1 y4.1)).trans (y4.2.1 x h1 h2), fun q hq => by
      rcases List.mem_append.mp hq with q1 | q1
      · exact y4.2.2 q q1
      · show G.1 ≤ q.base
        have e8 : q.base = (T.setVm vm₁).heap.size := hex q q1
        rw [e8, hTh, hsz]
        omega⟩, by rw [hlen]; omega, by rw [hss]; omega, by rw [hlen]; omega, by rw [hss]; omega⟩ hl
  have e9 : (Value.ref h.1.length :: st).map (gz_v G) = .ref H.size :: st.map (gz_v G) := by
    show Value.ref (gz_r G h.1.length) :: _ = _
    rw [hrr]
  rw [e9] at kW
  obtain ⟨t, a1, b1⟩ := kW F rfl X'
  refine ⟨t, step t ?_, b1⟩
  have ee : T.heap.size = H.size := by rw [hT]
  rw [ee]
  exact a1
