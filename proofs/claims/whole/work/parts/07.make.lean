/-! making arrays -/
theorem gz_cA {G : gz_G} {s : State} (hK : va_K G.2.2.2.2.2.1 gz_cl (gz_tys G) s) {cA : ClassId} (h : s.vm.findClass ("[" ++ FieldType.int.toString) = some cA) : cA = G.2.2.2.2.2.2 10 := by
  have h1 := (hK.2 0 _ rfl).2
  exact Option.some.inj (h.symm.trans h1)
set_option maxHeartbeats 1000000 in
theorem gz_newi {G : gz_G} {M : gz_M} {B : gz_B} {pc : Nat} {lo st : List Value} {h : gz_H} {Q : Option Value → gz_H → Prop} {n : Int32} (hd : decode M.2.2.1 pc = .ok (.newarray .int, 2)) (hw : Cond.arrayClass .int ∈ gz_TB) (hn : ¬ n < 0) (hm : h.1.length < 999999) (hN : n.toNatClampNeg ≤ 100000) (hb : h.1.length + 1 ≤ B.2.1 + B.2.2.2.1 ∧ gz_ss h.1 + n.toNatClampNeg ≤ B.2.2.1 + B.2.2.2.2)
    (kk : gz_Ok G M B (pc + 2) lo (.ref h.1.length :: st) (gz_al h (10, n.toNatClampNeg)) Q) : gz_Ok G M B pc lo (.int n :: st) h Q := by
  intro p l e R s m args below meth c Z X H locs ls kc ks Y hl
  have hroom := gz_room (mc := 1) (ms := n.toNatClampNeg) Y X.2.2.1 hb
  have hsz := Y.1.2.1
  have hlt := Y.1.2.2
  refine va_newaK (atype := .int) (g := F0 m pc ls (.int n :: st.map (gz_v G))) X.1.1 X.1.2.1 (X.1.2.2.2.2 _ hw) rfl hd rfl hn rfl (by show n.toNatClampNeg * 4 ≤ 536870912; omega) hroom.1 hroom.2 rfl fun H1 cA e1 z1 o1 hAr hNm => ?_
  have hcA := gz_cA X.2.2.2.1.1 hNm
  subst hcA
  have hY := Y.made (kn := (10, n.toNatClampNeg)) hm hb z1 o1 (by
    rw [gz_E_int, ← hsz]
    show H1[H.size]? = some (vp_cell _ _)
    rw [vp_cell_i]
    exact e1)
  have hrr : gz_r G h.1.length = H.size := by
    unfold gz_r
    rw [if_pos hlt, hsz]
  have := kk p l e R s m args below meth c Z X H1 locs ls _ _ hY hl
  have e9 : (Value.ref h.1.length :: st).map (gz_v G) = .ref H.size :: st.map (gz_v G) := by
    show Value.ref (gz_r G h.1.length) :: _ = _
    rw [hrr]
  rw [e9] at this
  exact this
set_option maxHeartbeats 1000000 in
theorem gz_newq {G : gz_G} {M : gz_M} {B : gz_B} {pc : Nat} {lo st : List Value} {h : gz_H} {Q : Option Value → gz_H → Prop} {n : Int32} {idx kd : Nat} {C : String} (hk : (kd = 11 ∧ C = RX2) ∨ (kd = 12 ∧ C = RX3)) (hd : decode M.2.2.1 pc = .ok (.anewarray idx, 3)) (hw : Cond.classLink M.1 idx C ∈ gz_TB) (hn : ¬ n < 0) (hm : h.1.length < 999999) (hN : n.toNatClampNeg ≤ 100000) (hb : h.1.length + 1 ≤ B.2.1 + B.2.2.2.1 ∧ gz_ss h.1 + n.toNatClampNeg ≤ B.2.2.1 + B.2.2.2.2)
    (kk : gz_Ok G M B (pc + 3) lo (.ref h.1.length :: st) (gz_al h (kd, n.toNatClampNeg)) Q) : gz_Ok G M B pc lo (.int n :: st) h Q := by
  intro p l e R s m args below meth c Z X H locs ls kc ks Y hl
  have hroom := gz_room (mc := 1) (ms := n.toNatClampNeg) Y X.2.2.1 hb
  have hsz := Y.1.2.1
  have hlt := Y.1.2.2
  have hK := X.2.2.2.1.1
  have hover : va_AO C s := by
    rcases hk with ⟨-, rfl⟩ | ⟨-, rfl⟩
    · exact X.2.2.2.1.2.2.1.1
    · exact X.2.2.2.1.2.2.1.2.1
  refine W.anew (g := F0 m pc ls (.int n :: st.map (gz_v G))) X.1.1 X.1.2.1 X.1.2.2.2.1 (X.1.2.2.2.2 _ hw) (va_AO.use hover) rfl hd rfl hn (by omega) hroom.1 hroom.2 fun cA kA comp f1 f2 f3 f4 => ?_
  have hcA : cA = G.2.2.2.2.2.2 kd := by
    rcases hk with ⟨rfl, rfl⟩ | ⟨rfl, rfl⟩
    · obtain ⟨_, _, _, _, _, k4⟩ := (hK.2 1 _ rfl).2
      exact Option.some.inj (f1.symm.trans k4)
    · obtain ⟨_, _, _, _, _, k4⟩ := (hK.2 2 _ rfl).2
      exact Option.some.inj (f1.symm.trans k4)
  subst hcA
  generalize hH1 : H.push ({ cls := G.2.2.2.2.2.2 kd, slots := Array.replicate n.toNatClampNeg .null, vm := .none } : Cell) = H1
  have z1 : H1.size = H.size + 1 := by rw [← hH1, Array.size_push]
  have e1 : H1[H.size]? = some (arrV (G.2.2.2.2.2.2 kd) n.toNatClampNeg (fun _ => .null)) := by rw [← hH1, Array.getElem?_push_size, ← arrV_new]
  have o1 : ∀ q : Nat, q < H.size → H1[q]? = H[q]? := fun q hq => by rw [← hH1, Array.getElem?_push, if_neg (Nat.ne_of_lt hq)]
  have hkd : kd = 11 ∨ kd = 12 ∨ kd = 13 := by omega
  have hY := Y.made (kn := (kd, n.toNatClampNeg)) hm hb z1 o1 (by
    rw [gz_E_ref hkd, ← hsz]
    show H1[H.size]? = some (vp_cell _ _)
    rw [vp_cell_q]
    exact e1)
  have hrr : gz_r G h.1.length = H.size := by
    unfold gz_r
    rw [if_pos hlt, hsz]
  have := kk p l e R s m args below meth c Z X H1 locs ls _ _ hY hl
  have e9 : (Value.ref h.1.length :: st).map (gz_v G) = .ref H.size :: st.map (gz_v G) := by
    show Value.ref (gz_r G h.1.length) :: _ = _
    rw [hrr]
  rw [e9] at this
  exact this
