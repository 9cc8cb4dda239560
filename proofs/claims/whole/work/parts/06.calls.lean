/-! System.arraycopy between int[]s; the script; LETTERS; Object.<init>; calls -/
def gz_cpOk (h : gz_H) (a0 a : Nat) (sp dp n : Int32) : Bool := match h.1[a0]?, h.1[a]? with
  | some k0, some k1 => k0.1 == 10 && k1.1 == 10 && !decide (sp < 0) && !decide (dp < 0) && !decide (n < 0) && decide (sp.toNatClampNeg + n.toNatClampNeg ≤ k0.2) && decide (dp.toNatClampNeg + n.toNatClampNeg ≤ k1.2)
  | _, _ => false
theorem gz_cpOk_spec {h : gz_H} {a0 a : Nat} {sp dp n : Int32} (hc : gz_cpOk h a0 a sp dp n = true) : ∃ n0 n1, h.1[a0]? = some (10, n0) ∧ h.1[a]? = some (10, n1) ∧ ¬ sp < 0 ∧ ¬ dp < 0 ∧ ¬ n < 0 ∧ sp.toNatClampNeg + n.toNatClampNeg ≤ n0 ∧ dp.toNatClampNeg + n.toNatClampNeg ≤ n1 := by
  unfold gz_cpOk at hc
  split at hc
  · rename_i k0 k1 e0 e1
    obtain ⟨x0, n0⟩ := k0
    obtain ⟨x1, n1⟩ := k1
    simp only [Bool.and_eq_true, beq_iff_eq, Bool.not_eq_true', decide_eq_false_iff_not, decide_eq_true_eq] at hc
    obtain ⟨⟨⟨⟨⟨⟨r1, r2⟩, r3⟩, r4⟩, r5⟩, r6⟩, r7⟩ := hc
    subst r1
    subst r2
    exact ⟨n0, n1, e0, e1, r3, r4, r5, r6, r7⟩
  · cases hc
def gz_lkC (own : String) (idx : Nat) : Prop := Cond.methodLink own idx arraycopyName ∈ gz_TB ∧ Cond.native arraycopyName ∈ gz_TB ∧ Cond.static arraycopyName ∈ gz_TB ∧ Cond.initialized "java/lang/System" ∈ gz_TB
def gz_cp (h : gz_H) (a0 a : Nat) (sp dp n : Int32) : gz_H := uF h a (va_cpy (h.2.1 a0) (h.2.1 a) sp.toNatClampNeg dp.toNatClampNeg n.toNatClampNeg)
set_option maxHeartbeats 1000000 in
theorem gz_copy {G : gz_G} {M : gz_M} {B : gz_B} {pc : Nat} {lo st : List Value} {h : gz_H} {Q : Option Value → gz_H → Prop} {idx a0 a : Nat} {sp dp n : Int32} (hd : decode M.2.2.1 pc = .ok (.invokestatic idx, 3)) (hk : gz_lkC M.1 idx) (hB : 1 ≤ B.1) (hcat : (st.map fun v => v.category).sum ≤ 8) (hc : gz_cpOk h a0 a sp dp n = true)
    (kk : gz_Ok G M B (pc + 3) lo st (gz_cp h a0 a sp dp n) Q) : gz_Ok G M B pc lo (.int n :: .int dp :: .ref a :: .int sp :: .ref a0 :: st) h Q := by
  intro p l e R s m args below meth c Z XX H locs ls kc ks Y hl
  obtain ⟨n0, n1, e0, e1, h1, h2, h3, h4, h5⟩ := gz_cpOk_spec hc
  have hw0 := gz_ws_get (G := G) e0
  have hw1 := gz_ws_get (G := G) e1
  have hset := gz_ws_set (G := G) (h' := gz_cp h a0 a sp dp n) e1 rfl (fun b hb => va_up_ne _ _ hb) (fun _ _ => rfl) (fun _ _ => rfl)
  have ea : (gz_cp h a0 a sp dp n).2.1 a = va_cpy (h.2.1 a0) (h.2.1 a) sp.toNatClampNeg dp.toNatClampNeg n.toNatClampNeg := va_up_self _ _ _
  rw [ea, gz_E_int] at hset
  rw [gz_E_int] at hw0 hw1
  show W p l e R s m args below meth c H locs kc ks Z (F0 m pc ls (.int n :: .int dp :: .ref (gz_r G a) :: .int sp :: .ref (gz_r G a0) :: st.map (gz_v G)))
  rw [gz_ra Y.1 e0, gz_ra Y.1 e1]
  have nn : ∀ z : Int32, ¬ z < 0 → z.toInt = (z.toNatClampNeg : Int) := by
    intro z hz
    have hz0 : (0 : Int) ≤ z.toInt := by
      have := Int32.not_lt.mp hz
      simpa using Int32.le_iff_toInt_le.mp this
    show z.toInt = ((z.toInt.toNat : Nat) : Int)
    omega
  intro T hT X
  have hts := XX.1.2.2.2.2
  have hc0 : H[G.1 + a0]? = some (vp_cell (G.2.2.2.2.2.2 10) (n0, .inl (h.2.1 a0))) := Y.1.1 a0 _ hw0
  have hc1 : H[G.1 + a]? = some (vp_cell (G.2.2.2.2.2.2 10) (n1, .inl (h.2.1 a))) := Y.1.1 a _ hw1
  obtain ⟨-, k0, hk0, cm0, hkk0⟩ := (XX.2.2.2.1.1.2 0 _ rfl).1 n0 (fun j => .int (h.2.1 a0 j))
  have hcs : ((st.map (gz_v G)).map fun v => v.category).sum ≤ 8 := by
    rw [List.map_map]
    have : ((fun v : Value => v.category) ∘ gz_v G) = fun v => v.category := funext fun v => gz_cat G v
    rw [this]
    exact hcat
  have hbl : 100 * B.1 ≤ R.locals := XX.2.2.1.2.1
  have hbf : B.1 ≤ R.frames := XX.2.2.1.1
  have hnat : nativeFrameWords "java/lang/System" "arraycopy" 5 + 11 ≤ 90 := by decide +kernel
  obtain ⟨vm', X', step⟩ := X.arraycopy XX.1.1 XX.1.2.2.2.1 (hts _ hk.1) (hts _ hk.2.1) (hts _ hk.2.2.1) (hts _ hk.2.2.2) (src := G.1 + a0) (dst := G.1 + a) (cs := vp_cell (G.2.2.2.2.2.2 10) (n0, .inl (h.2.1 a0))) (cd := vp_cell (G.2.2.2.2.2.2 10) (n1, .inl (h.2.1 a))) (srcPos := sp) (destPos := dp) (n := n) (by rw [hT]; exact hc0) (by rw [hT]; exact hc1)
    (fun _ h => by cases h) (fun _ h => by cases h) (fun h => by cases h) (fun h => by cases h) hk0 hk0 hkk0 hkk0 (by simp [refKind]) h1 h2 h3
    (by rw [nn sp h1, nn n h3]; show ¬ _ > ((arrV _ n0 (fun j => .int (h.2.1 a0 j))).slots.size : Int); rw [arrV_size]; omega)
    (by rw [nn dp h2, nn n h3]; show ¬ _ > ((arrV _ n1 (fun j => .int (h.2.1 a j))).slots.size : Int); rw [arrV_size]; omega)
    (fun vm₁ _ i hi => by
      have e : (vp_cell (G.2.2.2.2.2.2 10) (n0, .inl (h.2.1 a0))).slots.getD (sp.toNatClampNeg + i) .null = .int (h.2.1 a0 (sp.toNatClampNeg + i)) := by
        show (arrV _ n0 (fun j => .int (h.2.1 a0 j))).slots.getD _ _ = _
        rw [Array.getD_eq_getD_getElem?, arrV_read _ _ (by omega)]
        rfl
      refine ⟨?_, ?_⟩
      · rw [e]
        rfl
      · rw [e]
        exact trivial)
    (g := F0 m pc ls (.int n :: .int dp :: .ref (G.1 + a) :: .int sp :: .ref (G.1 + a0) :: st.map (gz_v G))) rfl (by rw [XX.1.2.2.1]; exact hl.1) (rest := st.map (gz_v G)) rfl (by rw [XX.1.2.1]; exact hd) (by omega) (by show 2 * 0 + _ + _ ≤ _; omega)
  have ec : copied (vp_cell (G.2.2.2.2.2.2 10) (n0, .inl (h.2.1 a0))) (vp_cell (G.2.2.2.2.2.2 10) (n1, .inl (h.2.1 a))) sp dp n = vp_cell (G.2.2.2.2.2.2 10) (n1, .inl (va_cpy (h.2.1 a0) (h.2.1 a) sp.toNatClampNeg dp.toNatClampNeg n.toNatClampNeg)) := va_copied (fun z => .int z) _ _ (h.2.1 a0) (h.2.1 a) h4
  rw [ec] at X' step
  generalize hcell : vp_cell (G.2.2.2.2.2.2 10) (n1, .inl (va_cpy (h.2.1 a0) (h.2.1 a) sp.toNatClampNeg dp.toNatClampNeg n.toNatClampNeg)) = cell at X' step
  have hl2 : G.1 + a < H.size := (Array.getElem?_eq_some_iff.mp hc1).1
  have hheap : ((T.setVm vm').setCell (G.1 + a) cell).heap = H.setIfInBounds (G.1 + a) cell := by rw [← hT]; rfl
  have oq : ∀ q : Nat, q ≠ G.1 + a → (H.setIfInBounds (G.1 + a) cell)[q]? = H[q]? := fun q hq => by simp [Array.getElem?_setIfInBounds, Ne.symm hq]
  have hP' := Y.1.1.set gz_wsD hw1 (e := .inl (G.2.2.2.2.2.2 10, n1, .inl (va_cpy (h.2.1 a0) (h.2.1 a) sp.toNatClampNeg dp.toNatClampNeg n.toNatClampNeg))) (show (H.setIfInBounds (G.1 + a) cell)[G.1 + a]? = some _ by simp [Array.getElem?_setIfInBounds, hl2, hcell]) oq
  rw [hset] at hP'
  have hA : gz_A G (G.1 + a) := by show G.1 ≤ G.1 + a; omega
  obtain ⟨t, a1, b1⟩ := kk p l e R s m args below meth c Z XX _ _ ls kc ks (Y.heap (h' := gz_cp h a0 a sp dp n) rfl hP' (by simp) ⟨by simp; exact Y.2.1.1, fun q g1 g2 => by
      rw [oq q (fun e => g2 (by rw [e]; exact hA))]
      exact Y.2.1.2.1 q g1 g2, fun q hq => by
      rcases List.mem_append.mp hq with h | h
      · exact Y.2.1.2.2 q h
      · obtain ⟨z, -, hz⟩ := List.mem_map.mp h
        rw [← hz]
        exact hA⟩) hl _ hheap X'
  exact ⟨t, step t a1, b1⟩
/-- the script -/
def gz_sin (G : gz_G) (i : Int32) : Bool := !decide (i < 0) && decide (i.toNatClampNeg < G.2.2.2.1)
theorem gz_sld {G : gz_G} {M : gz_M} {B : gz_B} {pc : Nat} {lo st : List Value} {h : gz_H} {Q : Option Value → gz_H → Prop} {i : Int32} (hd : decode M.2.2.1 pc = .ok (.iaload, 1)) (hs : gz_sin G i = true)
    (kk : gz_Ok G M B (pc + 1) lo (.int (G.2.2.2.2.1 i.toNatClampNeg) :: st) h Q) : gz_Ok G M B pc lo (.int i :: .ref 1000000 :: st) h Q := by
  intro p l e R s m args below meth c Z X H locs ls kc ks Y hl
  simp only [gz_sin, Bool.and_eq_true, Bool.not_eq_true', decide_eq_false_iff_not, decide_eq_true_eq] at hs
  obtain ⟨u1, u2, u3, ⟨u6, u7⟩, u8, u9, u10⟩ := X.2.2.2.1
  exact va_sld X.1.1 X.1.2.1 u6 (by omega) (fun z => by have z' : G.1 ≤ G.2.1 := z; omega) Y.2.1 (fun q => by rcases q with q | q; exact hs.1 q; omega) hd (kk p l e R s m args below meth c Z X H locs ls kc ks Y hl)
theorem gz_slen {G : gz_G} {M : gz_M} {B : gz_B} {pc : Nat} {lo st : List Value} {h : gz_H} {Q : Option Value → gz_H → Prop} (hd : decode M.2.2.1 pc = .ok (.arraylength, 1))
    (kk : gz_Ok G M B (pc + 1) lo (.int (Int32.ofNat G.2.2.2.1) :: st) h Q) : gz_Ok G M B pc lo (.ref 1000000 :: st) h Q := by
  intro p l e R s m args below meth c Z X H locs ls kc ks Y hl
  obtain ⟨u1, u2, u3, ⟨u6, u7⟩, u8, u9, u10⟩ := X.2.2.2.1
  exact va_slen (b := G.2.1) X.1.1 X.1.2.1 u6 (by omega) (fun z => by have z' : G.1 ≤ G.2.1 := z; omega) Y.2.1 hd (kk p l e R s m args below meth c Z X H locs ls kc ks Y hl)
/-- LETTERS -/
theorem gz_gets {G : gz_G} {M : gz_M} {B : gz_B} {pc : Nat} {lo st : List Value} {h : gz_H} {Q : Option Value → gz_H → Prop} {idx : Nat} {host : String} (hd : decode M.2.2.1 pc = .ok (.getstatic idx, 3)) (hk : Cond.fieldLinkNest M.1 idx RX8 "LETTERS" "[C" host ∈ gz_NW)
    (kk : gz_Ok G M B (pc + 3) lo (.ref 1000001 :: st) h Q) : gz_Ok G M B pc lo st h Q := by
  intro p l e R s m args below meth c Z X H locs ls kc ks Y hl
  obtain ⟨u1, u2, u3, ⟨u6, u7⟩, u8, u9, u10⟩ := X.2.2.2.1
  exact va_getsN X.1.1 X.1.2.1 u8 Y.2.1 X.1.2.2.2.1 (va_Nw.use rfl (u2 _ hk)) (fun _ z => z) hd (kk p l e R s m args below meth c Z X H locs ls kc ks Y hl)
def gz_lt6 (j : Nat) : Int32 := match j with
  | 0 => 103
  | 1 => 97
  | 2 => 116
  | 3 => 104
  | 4 => 108
  | _ => 115
def gz_in6 (i : Int32) : Bool := !decide (i < 0) && decide (i.toNatClampNeg < 6)
theorem gz_cald {G : gz_G} {M : gz_M} {B : gz_B} {pc : Nat} {lo st : List Value} {h : gz_H} {Q : Option Value → gz_H → Prop} {i : Int32} (hd : decode M.2.2.1 pc = .ok (.caload, 1)) (hs : gz_in6 i = true)
    (kk : gz_Ok G M B (pc + 1) lo (.int (gz_lt6 i.toNatClampNeg) :: st) h Q) : gz_Ok G M B pc lo (.int i :: .ref 1000001 :: st) h Q := by
  intro p l e R s m args below meth c Z X H locs ls kc ks Y hl
  simp only [gz_in6, Bool.and_eq_true, Bool.not_eq_true', decide_eq_false_iff_not, decide_eq_true_eq] at hs
  obtain ⟨u1, u2, u3, ⟨u6, u7⟩, u8, u9, u10⟩ := X.2.2.2.1
  exact va_tc X.1.1 X.1.2.1 u9 Y.2.1 (fun q => by rcases q with q | q; exact hs.1 q; omega) (v := .int (gz_lt6 i.toNatClampNeg)) rfl hd (kk p l e R s m args below meth c Z X H locs ls kc ks Y hl)
def gz_lkO (own : String) (idx : Nat) : Prop := Cond.methodLink own idx Lib.objectInit ∈ gz_TB ∧ Cond.instanceMethod Lib.objectInit ∈ gz_TB ∧ Cond.code Lib.objectInit ⟨#[0xb1]⟩ 1 none ∈ gz_TB
theorem gz_catS {G : gz_G} {st : List Value} (h : (st.map fun v => v.category).sum ≤ 8) : ((st.map (gz_v G)).map fun v => v.category).sum ≤ 8 := by
  rw [List.map_map]
  have : ((fun v : Value => v.category) ∘ gz_v G) = fun v => v.category := funext fun v => gz_cat G v
  rw [this]
  exact h
theorem gz_obj {G : gz_G} {M : gz_M} {B : gz_B} {pc : Nat} {lo st : List Value} {h : gz_H} {Q : Option Value → gz_H → Prop} {idx a : Nat} (hd : decode M.2.2.1 pc = .ok (.invokespecial idx, 3)) (hk : gz_lkO M.1 idx) (hB : 1 ≤ B.1) (hcat : (st.map fun v => v.category).sum ≤ 8)
    (kk : gz_Ok G M B (pc + 3) lo st h Q) : gz_Ok G M B pc lo (.ref a :: st) h Q := by
  intro p l e R s m args below meth c Z X H locs ls kc ks Y hl
  have hts := X.1.2.2.2.2
  have hcs := gz_catS (G := G) hcat
  have hbl : 100 * B.1 ≤ R.locals := X.2.2.1.2.1
  have hbf : B.1 ≤ R.frames := X.2.2.1.1
  exact W.objInit X.1.1 X.1.2.1 X.1.2.2.2.1 (hts _ hk.1) (hts _ hk.2.1) (hts _ hk.2.2) (g := F0 m pc ls (.ref (gz_r G a) :: st.map (gz_v G))) rfl (by rw [X.1.2.2.1]; exact hl.1) rfl hd (by omega) (by show 2 * 0 + _ + _ ≤ _; omega) (kk p l e R s m args below meth c Z X H locs ls kc ks Y hl)
/-! calls: kind 0 static, 1 virtual, 2 special -/
def gz_lk (kind : Nat) (own : String) (idx : Nat) (Mj : gz_M) (n : Nat) : Prop :=
  Cond.code Mj.2.1 Mj.2.2.1 Mj.2.2.2.1 Mj.2.2.2.2 ∈ gz_TB ∧ Cond.initialized Mj.2.1.cls ∈ gz_TB ∧ (Cond.methodLink own idx Mj.2.1 ∈ gz_TB ∨ ∃ host, Cond.methodLinkNest own idx Mj.2.1 host ∈ gz_NW) ∧ Mj.2.2.2.1 ≤ 80 ∧
  (Mj.2.1.cls ≠ "java/lang/invoke/MethodHandle" ∧ Mj.2.1.cls ≠ "java/lang/invoke/VarHandle" ∧ (parseMethodDescriptor Mj.2.1.desc).map (fun d => d.parameters.length) = some n) ∧
  (kind = 0 → Cond.static Mj.2.1 ∈ gz_TB) ∧ (kind ≠ 0 → Cond.instanceMethod Mj.2.1 ∈ gz_TB) ∧ (kind = 1 → Cond.selects Mj.2.1.cls Mj.2.1 Mj.2.1 ∈ gz_TB) ∧ (kind = 2 → Mj.2.1.name = "<init>" ∧ Mj.2.2.2.2 = none)
theorem gz_good {Mj : gz_M} (h : Cond.code Mj.2.1 Mj.2.2.1 Mj.2.2.2.1 Mj.2.2.2.2 ∈ gz_TB) : GoodIn gz_TB (gz_wsM Mj) := by
  intro w hw
  have hw2 : w ∈ gz_TB := by
    rcases List.mem_cons.mp hw with rfl | q
    · exact h
    · exact q
  exact ⟨hw2, good_of_word (List.mem_filter.mp hw2).2⟩
theorem gz_blind {G : gz_G} {av : List Value} {h : gz_H} : FrameBlind (gz_Pc G av h) := fun a U g mk q => ⟨q.1, q.2.1.calling, q.2.2⟩
theorem gz_pre {G : gz_G} {B : gz_B} {h : gz_H} {s : State} {H : Heap} {locs : List Loc} {kc ks : Nat} (av : List Value) (hU : gz_U G s) (Y : gz_Y G B h s H locs kc ks) : ∀ U : State, U.heap = H → s.WarmedH U.vm → gz_Pc G av h (av.map (gz_v G)).toArray U := by
  intro U hUH hW
  refine ⟨rfl, hU.moved hW (by rw [hUH]; exact Y.2.1.1) (fun q h1 h2 => by rw [hUH]; exact Y.2.1.2.1 q h1 h2), by rw [hUH]; exact Y.1⟩
theorem gz_after {G : gz_G} {B : gz_B} {h : gz_H} {Q' : Option Value → gz_H → Prop} {p : Program} {l : Launch} {e : Env} {R : Room} {s : State} {m : MethodId} {args : Array Value} {below : List Frame} {meth : Method} {c : Code} {Z : State → Prop} {H : Heap} {locs : List Loc} {kc ks mc ms pc : Nat} {ls : Array Slot} {st0 rest : List Value} {a : Array Value}
    (hr : va_Run p l e R s m args below meth c H locs kc ks mc ms (F0 m pc ls st0) rest (gz_Qc G h mc ms Q' a) (gz_A G)) (Y : gz_Y G B h s H locs kc ks) (hb : h.1.length + mc ≤ B.2.1 + B.2.2.2.1 ∧ gz_ss h.1 + ms ≤ B.2.2.1 + B.2.2.2.2)
    (kk : ∀ (v : Option Value) (h' : gz_H) (H' : Heap) (locs' : List Loc), Q' v h' → gz_Y G B h' s H' locs' (kc + mc) (ks + ms) → W p l e R s m args below meth c H' locs' (kc + mc) (ks + ms) Z (F0 m (pc + 3) ls ((v.map (gz_v G)).toList ++ rest))) : W p l e R s m args below meth c H locs kc ks Z (F0 m pc ls st0) := by
  intro T hT X
  obtain ⟨v, st₀, t, T', L, h0, X', hL, e1, e2, ⟨v', h', hv, hq, hHr, hlen, hss, hz, hk⟩, st⟩ := hr T hT X
  cases hv
  rw [h0] at hz hk
  obtain ⟨y1, y2, y3, y4, y5, y6⟩ := Y
  obtain ⟨t2, a1, b1⟩ := kk v' h' T'.heap (locs ++ L) hq ⟨by rw [e1]; exact hHr, ⟨Nat.le_trans y2.1 (by rw [e1]; exact hz), fun q h1 h2 => by rw [e1, hk q (Nat.lt_of_lt_of_le h1 y2.1) h2]; exact y2.2.1 q h1 h2, fun q hq => by
      rcases List.mem_append.mp hq with h | h
      · exact y2.2.2 q h
      · exact hL q h⟩, by omega, by omega, by omega, by omega⟩ T' rfl X'
  exact ⟨t2, st t2 a1, b1⟩
theorem gz_stk (G : gz_G) (av st : List Value) : (av.reverse ++ st).map (gz_v G) = (av.map (gz_v G)).reverse ++ st.map (gz_v G) := by rw [List.map_append, List.map_reverse]
theorem gz_room {G : gz_G} {B : gz_B} {h : gz_H} {s : State} {H : Heap} {locs : List Loc} {kc ks mc ms : Nat} {R : Room} (Y : gz_Y G B h s H locs kc ks) (hR : B.1 ≤ R.frames ∧ 100 * B.1 ≤ R.locals ∧ B.2.2.2.1 ≤ R.cells ∧ B.2.2.2.2 ≤ R.slots) (hb : h.1.length + mc ≤ B.2.1 + B.2.2.2.1 ∧ gz_ss h.1 + ms ≤ B.2.2.1 + B.2.2.2.2) : kc + mc ≤ R.cells ∧ ks + ms ≤ R.slots := by
  obtain ⟨y1, y2, y3, y4, y5, y6⟩ := Y
  omega
set_option maxHeartbeats 1000000 in
theorem gz_callS {G : gz_G} {M : gz_M} {B : gz_B} {pc : Nat} {lo st stk : List Value} {h : gz_H} {Q : Option Value → gz_H → Prop} {idx n d mc ms : Nat} {Mj : gz_M} {av : List Value} {Q' : Option Value → gz_H → Prop} (hd : decode M.2.2.1 pc = .ok (.invokestatic idx, 3)) (hk : gz_lk 0 M.1 idx Mj n) (hn : av.length = n) (hst : stk = av.reverse ++ st) (hcat : (st.map fun v => v.category).sum ≤ 8) (hB : d + 1 ≤ B.1)
    (hb : h.1.length + mc ≤ B.2.1 + B.2.2.2.1 ∧ gz_ss h.1 + ms ≤ B.2.2.1 + B.2.2.2.2) (hc : gz_Cl G Mj d mc ms av h Q') (kk : ∀ (v : Option Value) (h' : gz_H), Q' v h' → gz_Ok G M B (pc + 3) lo (v.toList ++ st) h' Q) : gz_Ok G M B pc lo stk h Q := by
  intro p l e R s m args below meth c Z X H locs ls kc ks Y hl
  obtain ⟨k1, k2, k3, k4, k5, k6, k7, k8, k9⟩ := hk
  have hts := X.1.2.2.2.2
  have hR := X.2.2.1
  have hroom := gz_room Y hR hb
  have hfr : (gz_rm d mc ms).frames + 1 ≤ R.frames ∧ 8 + (Mj.2.2.2.1 + 11) + (gz_rm d mc ms).locals ≤ R.locals := by
    show d + 1 ≤ R.frames ∧ 8 + (Mj.2.2.2.1 + 11) + 100 * d ≤ R.locals
    omega
  have hsz : ls.size = M.2.2.2.1 := hl.1
  have hcs := gz_catS (G := G) hcat
  have fin : ∀ (v : Option Value) (h' : gz_H) (H' : Heap) (locs' : List Loc), Q' v h' → gz_Y G B h' s H' locs' (kc + mc) (ks + ms) → W p l e R s m args below meth c H' locs' (kc + mc) (ks + ms) Z (F0 m (pc + 3) ls ((v.map (gz_v G)).toList ++ st.map (gz_v G))) := by
    intro v h' H' locs' hq Y'
    have := kk v h' hq p l e R s m args below meth c Z X H' locs' ls (kc + mc) (ks + ms) Y' hl
    rw [List.map_append] at this
    cases v <;> exact this
  subst hst
  rw [gz_stk]
  rcases k3 with k3 | ⟨host, k3⟩
  · exact gz_after (va_runS (As := av.map (gz_v G)) (rest := st.map (gz_v G)) X.1 (hc l) ⟨callB_of n hts (gz_good k1) rfl rfl rfl (hts _ k2) (hts _ k3) k5 hfr, hts _ (k6 rfl)⟩ ⟨gz_blind, gz_pre av X.2.2.2.1 Y⟩ rfl (by rw [List.length_map]; exact hn) hsz rfl (by show 2 * 0 + _ ≤ 8; omega) hd hroom) Y hb fin
  · exact gz_after (va_runSN (As := av.map (gz_v G)) (rest := st.map (gz_v G)) X.1 (hc l) ⟨va_cnB n hts (gz_good k1) rfl rfl rfl (X.2.2.2.1.2.1 _ k3) (hts _ k2) k5 hfr, hts _ (k6 rfl), trivial⟩ ⟨gz_blind, gz_pre av X.2.2.2.1 Y⟩ rfl (by rw [List.length_map]; exact hn) hsz rfl (by show 2 * 0 + _ ≤ 8; omega) hd hroom) Y hb fin
set_option maxHeartbeats 1000000 in
theorem gz_callV {G : gz_G} {M : gz_M} {B : gz_B} {pc : Nat} {lo st stk : List Value} {h : gz_H} {Q : Option Value → gz_H → Prop} {idx n d mc ms a ci N : Nat} {T : u_T} {Mj : gz_M} {av : List Value} {Q' : Option Value → gz_H → Prop} (hd : decode M.2.2.1 pc = .ok (.invokevirtual idx, 3)) (hk : gz_lk 1 M.1 idx Mj n) (hci : gz_cl[ci]? = some (Mj.2.1.cls, T, N)) (hs : h.1[a]? = some (ci, N)) (hn : av.length = n) (hst : stk = av.reverse ++ .ref a :: st) (hcat : (st.map fun v => v.category).sum ≤ 8) (hB : d + 1 ≤ B.1)
    (hb : h.1.length + mc ≤ B.2.1 + B.2.2.2.1 ∧ gz_ss h.1 + ms ≤ B.2.2.1 + B.2.2.2.2) (hc : gz_Cl G Mj d mc ms (.ref a :: av) h Q') (kk : ∀ (v : Option Value) (h' : gz_H), Q' v h' → gz_Ok G M B (pc + 3) lo (v.toList ++ st) h' Q) : gz_Ok G M B pc lo stk h Q := by
  intro p l e R s m args below meth c Z X H locs ls kc ks Y hl
  obtain ⟨k1, k2, k3, k4, k5, k6, k7, k8, k9⟩ := hk
  have hts := X.1.2.2.2.2
  have hR := X.2.2.1
  have hroom := gz_room Y hR hb
  have hfr : (gz_rm d mc ms).frames + 1 ≤ R.frames ∧ 8 + (Mj.2.2.2.1 + 11) + (gz_rm d mc ms).locals ≤ R.locals := by
    show d + 1 ≤ R.frames ∧ 8 + (Mj.2.2.2.1 + 11) + 100 * d ≤ R.locals
    omega
  have hsz : ls.size = M.2.2.2.1 := hl.1
  have hcs := gz_catS (G := G) hcat
  have fin : ∀ (v : Option Value) (h' : gz_H) (H' : Heap) (locs' : List Loc), Q' v h' → gz_Y G B h' s H' locs' (kc + mc) (ks + ms) → W p l e R s m args below meth c H' locs' (kc + mc) (ks + ms) Z (F0 m (pc + 3) ls ((v.map (gz_v G)).toList ++ st.map (gz_v G))) := by
    intro v h' H' locs' hq Y'
    have := kk v h' hq p l e R s m args below meth c Z X H' locs' ls (kc + mc) (ks + ms) Y' hl
    rw [List.map_append] at this
    cases v <;> exact this
  subst hst
  rw [gz_stk]
  have hw := gz_ws_get (G := G) hs
  rw [gz_E_obj (gz_cl_lt hci)] at hw
  have hrecv := va_recv X.2.2.2.1.1 Y.1.1 hci hw
  rw [← gz_ra Y.1 hs] at hrecv
  rcases k3 with k3 | ⟨host, k3⟩
  · exact gz_after (va_runV (C := Mj.2.1.cls) (b := gz_r G a) (As := av.map (gz_v G)) (rest := st.map (gz_v G)) X.1 (hc l) ⟨callB_of n hts (gz_good k1) rfl rfl rfl (hts _ k2) (hts _ k3) k5 hfr, hts _ (k7 (by decide)), hts _ (k8 rfl)⟩ ⟨gz_blind, hrecv, gz_pre (.ref a :: av) X.2.2.2.1 Y⟩ rfl (by rw [List.length_map]; exact hn) hsz rfl (by show 2 * 0 + _ ≤ 8; omega) hd hroom) Y hb fin
  · exact gz_after (va_runVN (C := Mj.2.1.cls) (b := gz_r G a) (As := av.map (gz_v G)) (rest := st.map (gz_v G)) X.1 (hc l) ⟨va_cnB n hts (gz_good k1) rfl rfl rfl (X.2.2.2.1.2.1 _ k3) (hts _ k2) k5 hfr, hts _ (k7 (by decide)), hts _ (k8 rfl)⟩ ⟨gz_blind, hrecv, gz_pre (.ref a :: av) X.2.2.2.1 Y⟩ rfl (by rw [List.length_map]; exact hn) hsz rfl (by show 2 * 0 + _ ≤ 8; omega) hd hroom) Y hb fin
set_option maxHeartbeats 1000000 in
theorem gz_callI {G : gz_G} {M : gz_M} {B : gz_B} {pc : Nat} {lo st stk : List Value} {h : gz_H} {Q : Option Value → gz_H → Prop} {idx n d mc ms a : Nat} {R' : String} {y' : MethodName} {cd' : ByteArray} {mx' : Nat} {av : List Value} {Q' : Option Value → gz_H → Prop} (hd : decode M.2.2.1 pc = .ok (.invokespecial idx, 3)) (hk : gz_lk 2 M.1 idx (R', y', cd', mx', none) n) (hn : av.length = n) (hst : stk = av.reverse ++ .ref a :: st) (hcat : (st.map fun v => v.category).sum ≤ 8) (hB : d + 1 ≤ B.1)
    (hb : h.1.length + mc ≤ B.2.1 + B.2.2.2.1 ∧ gz_ss h.1 + ms ≤ B.2.2.1 + B.2.2.2.2) (hc : gz_Cl G (R', y', cd', mx', none) d mc ms (.ref a :: av) h Q') (kk : ∀ (v : Option Value) (h' : gz_H), Q' v h' → gz_Ok G M B (pc + 3) lo (v.toList ++ st) h' Q) : gz_Ok G M B pc lo stk h Q := by
  intro p l e R s m args below meth c Z X H locs ls kc ks Y hl
  obtain ⟨k1, k2, k3, k4, k5, k6, k7, k8, k9⟩ := hk
  have hts := X.1.2.2.2.2
  have hR := X.2.2.1
  have hroom := gz_room Y hR hb
  have hfr : (gz_rm d mc ms).frames + 1 ≤ R.frames ∧ 8 + (mx' + 11) + (gz_rm d mc ms).locals ≤ R.locals := by
    show d + 1 ≤ R.frames ∧ 8 + (mx' + 11) + 100 * d ≤ R.locals
    simp only at k4
    omega
  have hsz : ls.size = M.2.2.2.1 := hl.1
  have hcs := gz_catS (G := G) hcat
  have fin : ∀ (v : Option Value) (h' : gz_H) (H' : Heap) (locs' : List Loc), Q' v h' → gz_Y G B h' s H' locs' (kc + mc) (ks + ms) → W p l e R s m args below meth c H' locs' (kc + mc) (ks + ms) Z (F0 m (pc + 3) ls ((v.map (gz_v G)).toList ++ st.map (gz_v G))) := by
    intro v h' H' locs' hq Y'
    have := kk v h' hq p l e R s m args below meth c Z X H' locs' ls (kc + mc) (ks + ms) Y' hl
    rw [List.map_append] at this
    cases v <;> exact this
  subst hst
  rw [gz_stk]
  rcases k3 with k3 | ⟨host, k3⟩
  · exact gz_after (va_runI (b := gz_r G a) (As := av.map (gz_v G)) (rest := st.map (gz_v G)) X.1 (hc l) ⟨callB_of n hts (gz_good k1) rfl rfl rfl (hts _ k2) (hts _ k3) k5 hfr, (k9 rfl).1, hts _ (k7 (by decide))⟩ ⟨gz_blind, gz_pre (.ref a :: av) X.2.2.2.1 Y⟩ rfl (by rw [List.length_map]; exact hn) hsz rfl (by show 2 * 0 + _ ≤ 8; omega) hd hroom) Y hb fin
  · exact gz_after (va_runIN (b := gz_r G a) (As := av.map (gz_v G)) (rest := st.map (gz_v G)) X.1 (hc l) ⟨va_cnB n hts (gz_good k1) rfl rfl rfl (X.2.2.2.1.2.1 _ k3) (hts _ k2) k5 hfr, (k9 rfl).1, hts _ (k7 (by decide))⟩ ⟨gz_blind, gz_pre (.ref a :: av) X.2.2.2.1 Y⟩ rfl (by rw [List.length_map]; exact hn) hsz rfl (by show 2 * 0 + _ ≤ 8; omega) hd hroom) Y hb fin
/-! making -/
theorem gz_Y.made {G : gz_G} {B : gz_B} {h : gz_H} {kn : Nat × Nat} {s : State} {H H1 : Heap} {locs : List Loc} {kc ks : Nat} (Y : gz_Y G B h s H locs kc ks) (hm : h.1.length < 999999) (hb : h.1.length + 1 ≤ B.2.1 + B.2.2.2.1 ∧ gz_ss h.1 + kn.2 ≤ B.2.2.1 + B.2.2.2.2) (z : H1.size = H.size + 1) (o : ∀ q, q < H.size → H1[q]? = H[q]?)
    (hn : va_at G.2.2.2.2.2.1 gz_cl (G.1 + h.1.length, gz_E G kn (fun _ => 0) (fun _ => 0) (fun _ => none)) H1) : gz_Y G B (gz_al h kn) s H1 locs (kc + 1) (ks + kn.2) := by
  obtain ⟨⟨y1, y2, y3⟩, y4, y5, y6, y7, y8⟩ := Y
  have hlen : (gz_al h kn).1.length = h.1.length + 1 := by simp [gz_al]
  have hss : gz_ss (gz_al h kn).1 = gz_ss h.1 + kn.2 := by
    show gz_ss (h.1 ++ [kn]) = _
    rw [gz_ss_app]
    simp [gz_ss]
  refine ⟨⟨?_, by rw [z, hlen]; omega, by rw [hlen]; omega⟩, ⟨Nat.le_trans y4.1 (by omega), fun x h1 h2 => (o x (Nat.lt_of_lt_of_le h1 y4.1)).trans (y4.2.1 x h1 h2), y4.2.2⟩, by rw [hlen]; omega, by rw [hss]; omega, by rw [hlen]; omega, by rw [hss]; omega⟩
  rw [gz_ws_al]
  refine (y1.kept (fun k x hx => o x.1 ((y1 k x hx).lt))).app (fun k x hx => ?_)
  have hz : k < 1 := (List.getElem?_eq_some_iff.mp hx).1
  rw [show k = 0 by omega] at hx
  cases hx
  exact hn
theorem gz_tyok (ci j : Nat) : gz_isi (gz_ty ci j) = true ∨ gz_ty ci j = .long ∨ gz_isr (gz_ty ci j) = true := by
  match ci with
  | 0 => simp only [gz_ty, tyX0]; split <;> simp [gz_isi, gz_isr]
  | 1 => simp only [gz_ty, tyX1]; split <;> simp [gz_isi, gz_isr]
  | 2 => simp only [gz_ty, tyX2]; split <;> simp [gz_isi, gz_isr]
  | 3 => simp only [gz_ty, tyX3]; split <;> simp [gz_isi, gz_isr]
  | 4 => simp only [gz_ty, tyX4]; split <;> simp [gz_isi, gz_isr]
  | 5 => simp only [gz_ty, tyX5]; split <;> simp [gz_isi, gz_isr]
  | 6 => simp only [gz_ty, tyX6]; split <;> simp [gz_isi, gz_isr]
  | 7 => simp only [gz_ty, tyX7]; split <;> simp [gz_isi, gz_isr]
  | 8 => simp only [gz_ty, tyX8]; split <;> simp [gz_isi, gz_isr]
  | n + 9 => simp only [gz_ty, tyX9]; split <;> simp [gz_isi, gz_isr]
def gz_lkN (own : String) (idx ci N : Nat) : Prop := ∃ (C : String) (T : u_T), gz_cl[ci]? = some (C, T, N) ∧ Cond.classLink own idx C ∈ gz_TB ∧ Cond.instantiable C N ∈ gz_TB ∧ Cond.initialized C ∈ gz_TB
set_option maxHeartbeats 1000000 in
theorem gz_new {G : gz_G} {M : gz_M} {B : gz_B} {pc : Nat} {lo st : List Value} {h : gz_H} {Q : Option Value → gz_H → Prop} {idx ci N : Nat} (hd : decode M.2.2.1 pc = .ok (.new idx, 3)) (hk : gz_lkN M.1 idx ci N) (hm : h.1.length < 999999) (hb : h.1.length + 1 ≤ B.2.1 + B.2.2.2.1 ∧ gz_ss h.1 + N ≤ B.2.2.1 + B.2.2.2.2)
    (kk : gz_Ok G M B (pc + 3) lo (.ref h.1.length :: st) (gz_al h (ci, N)) Q) : gz_Ok G M B pc lo st h Q := by
  intro p l e R s m args below meth c Z X H locs ls kc ks Y hl
  obtain ⟨C, T, hc, w1, w2, w3⟩ := hk
  have hts := X.1.2.2.2.2
  have hK := X.2.2.2.1.1
  have hKn := hK.1 ci _ hc
  obtain ⟨hin, htys, hnms⟩ := gz_cls ci C T N hc
  have hroom := gz_room (mc := 1) (ms := N) Y X.2.2.1 hb
  have hsz := Y.1.2.1
  have hlt := Y.1.2.2
  refine W.newcK (g := F0 m pc ls (st.map (gz_v G))) X.1.1 X.1.2.1 X.1.2.2.2.1 (hts _ w1) (hts _ w2) (hts _ w3) rfl hd hroom.1 hroom.2 hKn.2.1 rfl fun H1 kC hkC e1 z1 o1 => ?_
  have hY := Y.made (kn := (ci, N)) hm hb z1 o1 (by
    rw [gz_E_obj (gz_cl_lt hc), ← hsz]
    refine ⟨_, hc, (u_born (gz_ty ci) hts hin hKn hkC e1 htys).to (fun j hj => ?_)⟩
    show defaultValue (gz_ty ci j) = vp_V _ j
    have : vp_V ((List.range N).map (fun i => gz_fv G (gz_ty ci i) ((fun _ => (0 : Int32)) i) ((fun _ => (0 : Int64)) i) ((fun _ => (none : Option Nat)) i))) j = gz_fv G (gz_ty ci j) 0 0 none := by
      simp [vp_V, List.getD, List.getElem?_range hj]
    rw [this]
    have hr : ∀ ty : FieldType, (gz_isi ty = true ∨ ty = .long ∨ gz_isr ty = true) → defaultValue ty = gz_fv G ty 0 0 none := by
      intro ty h
      cases ty <;> first | rfl | (simp [gz_isi, gz_isr] at h)
    exact hr _ (gz_tyok ci j))
  have hrr : gz_r G h.1.length = H.size := by
    unfold gz_r
    rw [if_pos hlt, hsz]
  have := kk p l e R s m args below meth c Z X H1 locs ls (kc + 1) (ks + N) hY hl
  have e9 : (Value.ref h.1.length :: st).map (gz_v G) = .ref H.size :: st.map (gz_v G) := by
    show Value.ref (gz_r G h.1.length) :: _ = _
    rw [hrr]
  rw [e9] at this
  exact this
