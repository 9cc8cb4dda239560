/-! THE CLAIM OUT OF ONE WALK OF THE LAW'S BODY. Your part is whole_start (and what it stands on); all else here is the same for every law, but numbers. -/
def R_law : String := "MemoryGeeseLaw"
def lw_P (b : Addr) (xs : List Int32) (args : Array Value) (s : State) : Prop := args = #[.ref b] ∧ s.IntsAt b xs ∧ xs.length ≤ 384 ∧ (Jvm.Cond.and given_1 narrow_1).before args s = true
def lw_Q (_ : Array Value) (s : State) (o : Outcome) (t : State) : Prop := o = .returned (some (.int 1)) ∧ Framed s o t [] 600000 7302250
def lw_Z (below : List Frame) (a : Array Value) (s : State) : State → Prop := fun t => ∃ o, t.status = .running ∧ Ended t below o ∧ lw_Q a s o t
/-- the law's own end, with 1 on the stack, nothing written that was there before, its room as the claim has it -/
theorem lw_ret {p : Program} {l : Launch} {e : Env} {s : State} {m : MethodId} {below : List Frame} {meth : Method} {c : Code} {b : Nat} (hx : p.tables.exec = Jvm.exec) (hb : c.code = code) (hr : meth.sig.returnType = ret) (hlocks : meth.locks = false) {pc : Nat} {H : Heap} {ls : Array Slot} (hdg : decode code pc = .ok (.ireturn, 1)) : W p l e room_1 s m #[Value.ref b] below meth c H [] 600000 7302250 (lw_Z below #[Value.ref b] s) (F0 m pc ls [.int 1]) := by
  intro T hT X
  obtain ⟨fs, hret, hrun, hended, hW, hframe⟩ := X.leave (v := some (.int 1)) (hlocks := hlocks) (fun h => by rw [hr] at h; cases h)
  have hmeth' : T.vm.method? m = some meth := X.method'
  refine ⟨T.setFrames fs, ?_, .returned (some (.int 1)), hrun, hended, rfl, ⟨_, rfl⟩, hW, hframe⟩
  jvm_step X.here [X.here.top, hx, hb, hdg, hmeth', hr, ret, narrow_b1]
  (try refine ⟨rfl, ?_⟩); (try refine ⟨rfl, ?_⟩)
  first | (intro acts; rw [hret _ acts rfl rfl rfl]) | rw [hret _ _ rfl rfl rfl]
  exact Steps.refl _
/-- what holds at the law's entry: the machine, the code, the tables' words (any of lw_tbl by 'hts w (by decide +kernel)'), the script of L ints xs at the cell b, what the Statement gives of the start (any of its parts by flat_of_before) -/
def lw_At (p : Program) (s : State) (m : MethodId) (meth : Method) (c : Code) (b L : Nat) (xs : Nat → Int32) : Prop :=
  p.tables.exec = Jvm.exec ∧ c.code = code ∧ meth.sig.returnType = ret ∧ c.maxLocals = 4 ∧ s.vm.findClass R_law = some m.cls ∧ (∀ w ∈ lw_tbl, w.before #[Value.ref b] s = true) ∧ va_X b L xs s s.heap ∧ b < s.heap.size ∧ meth.locks = false ∧ (Jvm.Cond.and given_1 narrow_1).before #[Value.ref b] s = true
theorem gz_kn (c : Nat) (q : vw_C) (h : gz_cl[c]? = some q) {s : State} {args : Array Value} (hts : ∀ w ∈ gz_TB, w.before args s = true) : ∃ (cC : ClassId) (iS : Nat → Nat), u_Kn s q.1 q.2.1 q.2.2 cC iS := by
  obtain ⟨C, T, N⟩ := q
  have hin := (gz_cls c C T N h).1
  have hi : ∃ n, (Cond.instantiable C n).before args s = true := by
    match c, h with
    | 0, h => cases h; exact ⟨2, hts _ (gz_in 145 (by decide +kernel) rfl)⟩
    | 1, h => cases h; exact ⟨4, hts _ (gz_in 237 (by decide +kernel) rfl)⟩
    | 2, h => cases h; exact ⟨6, hts _ (gz_in 188 (by decide +kernel) rfl)⟩
    | 3, h => cases h; exact ⟨2, hts _ (gz_in 222 (by decide +kernel) rfl)⟩
    | 4, h => cases h; exact ⟨2, hts _ (gz_in 160 (by decide +kernel) rfl)⟩
    | 5, h => cases h; exact ⟨4, hts _ (gz_in 126 (by decide +kernel) rfl)⟩
    | 6, h => cases h; exact ⟨2, hts _ (gz_in 175 (by decide +kernel) rfl)⟩
    | 7, h => cases h; exact ⟨3, hts _ (gz_in 101 (by decide +kernel) rfl)⟩
    | 8, h => cases h; exact ⟨19, hts _ (gz_in 93 (by decide +kernel) rfl)⟩
    | 9, h => cases h; exact ⟨29, hts _ (gz_in 886 (by decide +kernel) rfl)⟩
    | n + 10, h => simp at h
  obtain ⟨n, hi⟩ := hi
  exact u_known hts hin hi
set_option maxHeartbeats 4000000 in
set_option maxRecDepth 100000 in
/-- from the entry, for every script of at most 384 ints, the law comes to its end with true -/
theorem whole_start {p : Program} {e : Env} {s : State} {m : MethodId} {below : List Frame} {meth : Method} {c : Code} (l : Launch) {b L : Nat} {xs : Nat → Int32} (hL : L ≤ 384) (C0 : lw_At p s m meth c b L xs) : W p l e room_1 s m #[Value.ref b] below meth c s.heap [] 0 0 (lw_Z below #[Value.ref b] s) (entryFrame m ([Value.ref b] : List Value).toArray 4) := by
  obtain ⟨hx, hb, hr, hml, hown, hts0, hX, hbl, hlocks, hgv⟩ := C0
  have hts : ∀ w ∈ gz_TB, w.before #[Value.ref b] s = true := fun w hw => hts0 w (List.mem_filter.mp hw).1
  have hq := flat_of_before _ hgv
  have hA : ∀ a : Nat, a < s.heap.size → ¬ s.heap.size ≤ a := fun a h => by omega
  obtain ⟨t, ht, hT⟩ := va_Tof (args := #[Value.ref b]) (s := s) (tm := .static "MemoryGeese" "LETTERS" "[C") (ty := .char) (N := 6) (f := gz_let) (A := fun q => s.heap.size ≤ q) (by decide) (hq _ (by decide +kernel)) (va_eqt (z := 6) (hq _ (by decide +kernel))) (fun j hj => by
    match j, hj with
    | 0, _ => exact va_eqt (z := 103) (hq _ (by decide +kernel))
    | 1, _ => exact va_eqt (z := 97) (hq _ (by decide +kernel))
    | 2, _ => exact va_eqt (z := 116) (hq _ (by decide +kernel))
    | 3, _ => exact va_eqt (z := 104) (hq _ (by decide +kernel))
    | 4, _ => exact va_eqt (z := 108) (hq _ (by decide +kernel))
    | 5, _ => exact va_eqt (z := 115) (hq _ (by decide +kernel))
    | j + 6, hj => exact absurd hj (by omega)) hA
  have hZ := va_Zof (A := fun q => s.heap.size ≤ q) (hts0 _ (List.mem_of_getElem? (i := 416) (by decide +kernel))) (hts _ ki_X8_isOf) ht hA
  have hD : ∀ cc : Nat, ∃ (cC : ClassId) (iS : Nat → Nat), ∀ q : vw_C, gz_cl[cc]? = some q → u_Kn s q.1 q.2.1 q.2.2 cC iS := by
    intro cc
    cases hc : gz_cl[cc]? with
    | none => exact ⟨0, fun _ => 0, fun q h => by cases h⟩
    | some q =>
      obtain ⟨cC, iS, h⟩ := gz_kn cc q hc hts
      exact ⟨cC, iS, fun q' h' => by cases h'; exact h⟩
  obtain ⟨c10, k10, comp10, f10, g10, i10⟩ := Cond.arrayClass_spec (hts _ kw_int)
  have o11 : va_AO RX2 s := va_AO.of (hts0 _ (List.mem_of_getElem? (i := 243) (by decide +kernel)))
  have o12 : va_AO RX3 s := va_AO.of (hts0 _ (List.mem_of_getElem? (i := 235) (by decide +kernel)))
  have o13 : (Cond.arrayOver (.array .int)).before #[] s = true := over_moved (Vm.Alike.refl s.vm) (hts0 (Cond.arrayOver (.array .int)) (List.mem_of_getElem? (i := 107) (by decide +kernel)))
  obtain ⟨p11, c11, k11, a1, a2, a3, a4, a5⟩ := Cond.arrayOver_spec o11
  obtain ⟨p12, c12, k12, b1, b2, b3, b4, b5⟩ := Cond.arrayOver_spec o12
  obtain ⟨p13, c13, k13, d1, d2, d3, d4, d5⟩ := arrayOverA_spec o13
  generalize hG : ((s.heap.size, b, t, L, xs, (fun cc => Classical.choose (hD cc), fun cc => Classical.choose (Classical.choose_spec (hD cc))), (fun k => if k = 10 then c10 else if k = 11 then c11 else if k = 12 then c12 else c13)) : gz_G) = G
  have e1 : G.1 = s.heap.size := by rw [← hG]
  have e2 : G.2.1 = b := by rw [← hG]
  have hU : gz_U G s := by
    subst hG
    refine ⟨⟨fun cc q hc => Classical.choose_spec (Classical.choose_spec (hD cc)) q hc, fun k q hk => ?_⟩, fun w hw => ?_, ⟨o11, o12, o13⟩, ⟨hX, hbl⟩, hZ, hT, Nat.le_refl _⟩
    · match k, hk with
      | 0, hk => cases hk; exact ⟨fun n z => ⟨(fun _ h => by cases h), k10, g10, comp10, i10⟩, f10⟩
      | 1, hk => cases hk; exact ⟨fun n z => ⟨(fun _ h => by cases h), k11, a3, p11, a4⟩, k11, p11, a3, a4, a1, a5⟩
      | 2, hk => cases hk; exact ⟨fun n z => ⟨(fun _ h => by cases h), k12, b3, p12, b4⟩, k12, p12, b3, b4, b1, b5⟩
      | 3, hk => cases hk; exact ⟨fun n z => ⟨(fun _ h => by cases h), k13, d3, p13, d4⟩, d5⟩
      | k + 4, hk => simp at hk
    · have h1 := hts0 w (List.mem_filter.mp hw).1
      have h2 := (List.mem_filter.mp hw).2
      cases w <;> first | exact va_Nw.of rfl h1 | cases h2
  have hpure := law_pure G (by rw [← hG]; exact hL)
  have hok := sL_law_0 (G := G) (d := 0) gz_h0 hpure
  have hl := lv_entry ([Value.ref b]) (n := 4) (Nat.le_of_ble_eq_true rfl)
  rw [lg_entry_eq]
  refine hok p l e room_1 s m #[Value.ref b] below meth c (lw_Z below #[Value.ref b] s) ⟨⟨hx, hb, hml, hown, hts⟩, ?_, ⟨by decide, by decide, by decide, by decide⟩, hU, ?_⟩ s.heap [] _ 0 0 ⟨⟨fun k q h => by simp [gz_ws, gz_h0] at h, by rw [e1]; rfl, by decide⟩, va_S.rf, rfl, rfl, by decide, by decide⟩ ⟨hl.1, hl.2.1, fun i v hi hn => ?_⟩
  · exact fun z => absurd z (by decide)
  · intro v h' H' locs' ls' kc' ks' pc' hQ hY h1 h2 hrt
    obtain ⟨r, rfl, rfl⟩ := hQ
    obtain ⟨hd, -⟩ := hrt
    obtain ⟨y1, y2, y3, y4, y5, y6⟩ := hY
    refine va_forget (fun q hq => by have := y2.2.2 q hq; rw [← e1]; exact this) ?_
    simp only at y3 y4 y5 y6
    refine W.widen (k := 600000) (n := 7302250) (by omega) (by omega) ?_
    exact lw_ret hx hb hr hlocks hd
  · match i, hi with
    | 0, hi =>
      cases hi
      have := hl.2.2 (0, .ref b) List.mem_cons_self
      show _ = some (Slot.val (Value.ref (gz_r G 1000000)))
      rw [show gz_r G 1000000 = b from e2]
      exact this
    | 1, hi => cases hi; exact absurd rfl (hn 0)
    | 2, hi => cases hi; exact absurd rfl (hn 0)
    | 3, hi => cases hi; exact absurd rfl (hn 0)
    | i + 4, hi => simp at hi
set_option maxHeartbeats 4000000 in
theorem lw_walk (l : Launch) (b : Addr) (xs : List Int32) : MetFree l x (headSpec (Jvm.Cond.code x code maxLocals ret :: tables_1) room_1) (lw_P b xs) (fun _ _ _ _ _ => True) lw_Q := by
  refine MetFree.of_bodyS (code := code) (maxLocals := maxLocals) (ret := ret) (by decide) ?_ ?_
  · intro args s m h hn
    obtain ⟨meth, c, h1, h2, h3, h4, h5, h6, -, -⟩ := Cond.code_spec hn (atoms_spec (ws := Jvm.Cond.code x code maxLocals ret :: tables_1) h _ List.mem_cons_self)
    exact ⟨meth, c, h1, h2, h3, h4, h5, h6⟩
  · intro p e s m args below meth c s₁ B hml0 hP _
    obtain ⟨rfl, hx, hbd, hgv⟩ := hP
    obtain ⟨scr, harrAt, hlist, hof, hsmall⟩ := hx
    obtain ⟨hcb, hkn, -, -⟩ := State.arrayAt?_spec harrAt
    have hown : s.vm.findClass R_law = some m.cls := findClass_of_methodNamed B.named
    have hts0 : ∀ c ∈ (Jvm.Cond.code x code maxLocals ret :: tables_1), c.before #[Value.ref b] s = true := atoms_spec (ws := Jvm.Cond.code x code maxLocals ret :: tables_1) B.pre
    have hts : ∀ w ∈ lw_tbl, w.before #[Value.ref b] s = true := k2_hts_sels lw_privs (fun w hw => hts0 w (List.mem_cons_of_mem _ hw)) lw_privs_ok
    have hml : c.maxLocals = 4 := B.maxLocals_eq (hts0 _ List.mem_cons_self)
    have X₀ : Stand p l e room_1 s m #[Value.ref b] below meth c s₁ [] 0 0 := Stand.of_body B
    have hh0 : s₁.heap = s.heap := by rw [B.state]; rfl
    have hsz : scr.slots.size = xs.length := by rw [← Array.length_toList, hlist, List.length_map]
    have hval : ∀ j : Nat, j < xs.length → scr.slots[j]? = some (.int (xs.getD j 0)) := fun j hj => by
      rw [← Array.getElem?_toList, hlist]
      simp [hj]
    have hbl : b < s.heap.size := (Array.getElem?_eq_some_iff.mp hcb).1
    have hX : va_X b xs.length (fun j => xs.getD j 0) s s.heap := ⟨scr, hcb, hof, hkn, hsz, hval⟩
    have K : W p l e room_1 s m #[Value.ref b] below meth c s₁.heap [] 0 0 (lw_Z below #[Value.ref b] s) (entryFrame m ([Value.ref b] : List Value).toArray 4) := by
      rw [hh0]
      exact whole_start l hbd ⟨B.exec, B.bytes, B.returns, hml, hown, hts, hX, hbl, B.notSynchronized, hgv⟩
    obtain ⟨t, a1, o, b1, b2, b3⟩ := K s₁ rfl X₀
    exact ⟨t, o, a1, b1, b2, b3⟩
theorem lw_pre_spec {args : Array Value} {s : State} (h : (Jvm.Cond.and given_1 narrow_1).before args s = true) (hr : rest_1_c.before args s = true) : ∃ (b : Addr) (xs : List Int32), lw_P b xs args s := by
  have hs := flat_of_before _ h
  have hq := flat_of_before _ hr
  have hc : (Cond.count 1).before args s = true := hs _ (by decide +kernel)
  have harr : (Cond.arrayOf (.arg 0) .int).before args s = true := hs _ (by decide +kernel)
  have hle : (Cond.le (.length (.arg 0)) (.int 384)).before args s = true := hs _ (by decide +kernel)
  have hlen : (Cond.isInt (.length (.arg 0))).before args s = true := hq _ (by decide +kernel)
  have hall : (Cond.all (.arg 0) (.isInt (.elem (.arg 0) (.index 0)))).before args s = true := hq _ (by decide +kernel)
  obtain ⟨b, xs, hb, hx⟩ := State.ints_of_pre rfl harr hlen hall
  have hsm : xs.length < 2 ^ 31 := hx.choose_spec.2.2.2
  have hev : (Term.length (.arg 0)).eval args s none [] s = some (.int xs.length.toInt32) := hx.length_eval hb
  have hv := Cond.le_ints hev (show (Term.int 384).eval args s none [] s = some (.int 384) from rfl)
  have hd : xs.length.toInt32 ≤ 384 := by
    simpa [Cond.before, Cond.holds, hv] using hle
  have hN : xs.length ≤ 384 := (Int32.ofNat_le_ofNat hsm (by decide)).mp (show Int32.ofNat xs.length ≤ Int32.ofNat 384 from hd)
  exact ⟨b, xs, Cond.one_arg hc (show args[0]? = some (.ref b) from hb), hx, hN, h⟩
theorem lw_comes (l : Launch) : Comes l x (Jvm.Cond.code x code maxLocals ret :: tables_1) room_1 (fun tb e args s => Calls_1 tb e args s ∧ rest_1 tb e args s ∧ Pre_1 tb e args s)
    (fun _ _ args s o t => lw_Q args s o t) := by
  intro p e ha hc hk s m args below hf hfit hheap happ hpre
  obtain ⟨b, xs, hP⟩ := lw_pre_spec hpre.2.2 hpre.2.1
  obtain ⟨k, o, h1, h2, h3, hQ⟩ := lw_walk l b xs p e ha hc hk s m args below hf ((Spec.applies_iff_loose hf).mp happ).1 hP trivial
  exact ⟨k, o, h1, h2, h3, hQ⟩
theorem lw_frame {s t : State} {o : Outcome} {args : Array Value} (h : Framed s o t [] 600000 7302250) :
    Framed s o t (fieldLocs frame_1_writes args s ++ arrayLocs frame_1_arrays args s ++ staticLocs frame_1_statics s) 600000 7302250 := h
theorem lw_limb (L : Cond) (hL : ∀ (args : Array Value) (s t : State), L.after args s (.returned (some (.int 1))) t = true) :
    ArmFor flags0 classFile x code maxLocals ret World_1 tables_1 room_1 Calls_1 rest_1 Pre_1
      (fun tb e a s o t => postC L tb e a s o t ∧ Framed s o t (fieldLocs frame_1_writes a s ++ arrayLocs frame_1_arrays a s ++ staticLocs frame_1_statics s) 600000 7302250) := by
  intro l _ _ _ p e ha hc hk s m args below hf hfit hheap happ hpre
  obtain ⟨k, o, h1, h2, h3, rfl, hF⟩ := lw_comes l p e ha hc hk s m args below hf hfit hheap happ hpre
  exact ⟨k, _, h1, h2, h3, hL args s _, lw_frame hF⟩
theorem i_vc : Claimed_1_1 ∧ Claimed_1_2 := ⟨lw_limb limb_1_1 (fun args s t => by simp [limb_1_1, Cond.after, Cond.holds, Cond.value]), lw_limb limb_1_2 (fun args s t => Cond.after_iff.mpr (by
  first | (rw [show limb_1_2 = Cond.eq .result (.int 1) from rfl, Cond.eq_ints (x := 1) (y := 1) rfl rfl]; simp; done) | (simp [limb_1_2, Cond.value, Term.eval]; done)))⟩

