/-! THE STEPS that read and write the heap -/
theorem gz_cls (ci : Nat) (C : String) (T : u_T) (N : Nat) (h : gz_cl[ci]? = some (C, T, N)) : (∀ w ∈ u_ws C T N, w ∈ gz_TB) ∧ (∀ k, k < N → parseFieldDescriptor (T k).2.2.1 = some (gz_ty ci k)) ∧ (∀ a, a < N → ∀ b, b < N → a ≠ b → (T a).2.1 ≠ (T b).2.1) := by
  match ci, h with
  | 0, h => cases h; exact ⟨by decide +kernel, tyX0_ok, nmX0⟩
  | 1, h => cases h; exact ⟨by decide +kernel, tyX1_ok, nmX1⟩
  | 2, h => cases h; exact ⟨by decide +kernel, tyX2_ok, nmX2⟩
  | 3, h => cases h; exact ⟨by decide +kernel, tyX3_ok, nmX3⟩
  | 4, h => cases h; exact ⟨by decide +kernel, tyX4_ok, nmX4⟩
  | 5, h => cases h; exact ⟨by decide +kernel, tyX5_ok, nmX5⟩
  | 6, h => cases h; exact ⟨by decide +kernel, tyX6_ok, nmX6⟩
  | 7, h => cases h; exact ⟨by decide +kernel, tyX7_ok, nmX7⟩
  | 8, h => cases h; exact ⟨by decide +kernel, tyX8_ok, nmX8⟩
  | 9, h => cases h; exact ⟨by decide +kernel, tyX9_ok, nmX9⟩
  | n + 10, h => simp at h
/-- a field's link: of class own, at idx, field k of class ci -/
def gz_fl (own : String) (idx ci k N : Nat) : Prop := ∃ (C : String) (T : u_T), gz_cl[ci]? = some (C, T, N) ∧ k < N ∧ (Cond.fieldLink own idx (T k).1 (T k).2.1 (T k).2.2.1 ∈ gz_TB ∨ ∃ host, Cond.fieldLinkNest own idx (T k).1 (T k).2.1 (T k).2.2.1 host ∈ gz_NW)
theorem gz_cl_lt {ci : Nat} {q : vw_C} (h : gz_cl[ci]? = some q) : ci < 10 := (List.getElem?_eq_some_iff.mp h).1
theorem gz_E_obj {G : gz_G} {ci N : Nat} {I : Nat → Int32} {L : Nat → Int64} {R : Nat → Option Nat} (h : ci < 10) : gz_E G (ci, N) I L R = .inr (ci, (List.range N).map (fun i => gz_fv G (gz_ty ci i) (I i) (L i) (R i))) := by
  unfold gz_E
  rw [if_pos h]
theorem gz_E_int {G : gz_G} {N : Nat} {I : Nat → Int32} {L : Nat → Int64} {R : Nat → Option Nat} : gz_E G (10, N) I L R = .inl (G.2.2.2.2.2.2 10, N, .inl I) := rfl
theorem gz_E_ref {G : gz_G} {N kd : Nat} (hk : kd = 11 ∨ kd = 12 ∨ kd = 13) {I : Nat → Int32} {L : Nat → Int64} {R : Nat → Option Nat} : gz_E G (kd, N) I L R = .inl (G.2.2.2.2.2.2 kd, N, .inr (.inr (.inr (.inr (fun i => (R i).map (gz_r G)))))) := by
  rcases hk with rfl | rfl | rfl <;> rfl
theorem gz_ra {G : gz_G} {h : gz_H} {H : Heap} {a : Nat} {kn : Nat × Nat} (hr : gz_Hr G h H) (ha : h.1[a]? = some kn) : gz_r G a = G.1 + a := by
  have := (List.getElem?_eq_some_iff.mp ha).1
  have := hr.2.2
  unfold gz_r
  rw [if_pos (by omega)]
theorem gz_get {G : gz_G} {M : gz_M} {B : gz_B} {pc : Nat} {lo st : List Value} {h : gz_H} {Q : Option Value → gz_H → Prop} {idx ci k N a : Nat} {v : Value} (hd : decode M.2.2.1 pc = .ok (.getfield idx, 3)) (hk : gz_fl M.1 idx ci k N) (hs : h.1[a]? = some (ci, N)) (hv : gz_fv G (gz_ty ci k) (h.2.1 a k) (h.2.2.1 a k) (h.2.2.2 a k) = gz_v G v)
    (kk : gz_Ok G M B (pc + 3) lo (v :: st) h Q) : gz_Ok G M B pc lo (.ref a :: st) h Q := by
  intro p l e R s m args below meth c Z X H locs ls kc ks Y hl
  obtain ⟨C, T, hc, hkN, hlk⟩ := hk
  have e0 := gz_ra Y.1 hs
  have hw := gz_ws_get (G := G) hs
  rw [gz_E_obj (gz_cl_lt hc)] at hw
  have hv2 : ((List.range N).map (fun i => gz_fv G (gz_ty ci i) (h.2.1 a i) (h.2.2.1 a i) (h.2.2.2 a i)))[k]? = some (gz_v G v) := by
    rw [List.getElem?_map, List.getElem?_range hkN]
    exact congrArg some hv
  have kW := kk p l e R s m args below meth c Z X H locs ls kc ks Y hl
  show W p l e R s m args below meth c H locs kc ks Z (F0 m pc ls (.ref (gz_r G a) :: st.map (gz_v G)))
  rw [e0]
  rcases hlk with hlk | ⟨host, hlk⟩
  · exact va_get (D := G.2.2.2.2.2.1) X.1.1 X.1.2.1 X.1.2.2.2.2 (gz_cls ci C T N hc).1 X.1.2.2.2.1 X.2.2.2.1.1 Y.1.1 a hw hc k hkN (X.1.2.2.2.2 _ hlk) (fun _ z => z) hv2 hd kW
  · exact va_getN (D := G.2.2.2.2.2.1) X.1.1 X.1.2.1 X.1.2.2.2.2 (gz_cls ci C T N hc).1 X.1.2.2.2.1 X.2.2.2.1.1 Y.1.1 a hw hc k hkN (va_Nw.use rfl (X.2.2.2.1.2.1 _ hlk)) (fun _ z => z) hv2 hd kW
def gz_isi : FieldType → Bool
  | .int => true
  | .boolean => true
  | _ => false
def gz_isr : FieldType → Bool
  | .object _ => true
  | .array _ => true
  | _ => false
theorem gz_getI {G : gz_G} {M : gz_M} {B : gz_B} {pc : Nat} {lo st : List Value} {h : gz_H} {Q : Option Value → gz_H → Prop} {idx ci k N a : Nat} (hd : decode M.2.2.1 pc = .ok (.getfield idx, 3)) (hk : gz_fl M.1 idx ci k N) (ht : gz_isi (gz_ty ci k) = true) (hs : h.1[a]? = some (ci, N))
    (kk : gz_Ok G M B (pc + 3) lo (.int (h.2.1 a k) :: st) h Q) : gz_Ok G M B pc lo (.ref a :: st) h Q := by
  refine gz_get hd hk hs (v := .int (h.2.1 a k)) ?_ kk
  revert ht
  generalize gz_ty ci k = ty
  intro ht
  cases ty <;> first | rfl | cases ht
theorem gz_getL {G : gz_G} {M : gz_M} {B : gz_B} {pc : Nat} {lo st : List Value} {h : gz_H} {Q : Option Value → gz_H → Prop} {idx ci k N a : Nat} (hd : decode M.2.2.1 pc = .ok (.getfield idx, 3)) (hk : gz_fl M.1 idx ci k N) (ht : gz_ty ci k = .long) (hs : h.1[a]? = some (ci, N))
    (kk : gz_Ok G M B (pc + 3) lo (.long (h.2.2.1 a k) :: st) h Q) : gz_Ok G M B pc lo (.ref a :: st) h Q := by
  refine gz_get hd hk hs (v := .long (h.2.2.1 a k)) ?_ kk
  rw [ht]
  rfl
theorem gz_getR {G : gz_G} {M : gz_M} {B : gz_B} {pc : Nat} {lo st : List Value} {h : gz_H} {Q : Option Value → gz_H → Prop} {idx ci k N a r : Nat} (hd : decode M.2.2.1 pc = .ok (.getfield idx, 3)) (hk : gz_fl M.1 idx ci k N) (ht : gz_isr (gz_ty ci k) = true) (hs : h.1[a]? = some (ci, N)) (hr : h.2.2.2 a k = some r)
    (kk : gz_Ok G M B (pc + 3) lo (.ref r :: st) h Q) : gz_Ok G M B pc lo (.ref a :: st) h Q := by
  refine gz_get hd hk hs (v := .ref r) ?_ kk
  rw [hr]
  revert ht
  generalize gz_ty ci k = ty
  intro ht
  cases ty <;> first | rfl | cases ht
theorem gz_map_set {α : Type} (f g : Nat → α) {N k : Nat} (hk : k < N) (hg : ∀ i, i ≠ k → g i = f i) : ((List.range N).map f).set k (g k) = (List.range N).map g := by
  apply List.ext_getElem?
  intro i
  by_cases hi : i = k
  · subst hi
    rw [List.getElem?_set_self (by simpa using hk), List.getElem?_map, List.getElem?_range hk]
    rfl
  · by_cases hN : i < N
    · rw [List.getElem?_set_ne (Ne.symm hi), List.getElem?_map, List.getElem?_map, List.getElem?_range hN]
      simp [hg i hi]
    · rw [List.getElem?_eq_none (by simp; omega), List.getElem?_eq_none (by simp; omega)]
theorem gz_Y.heap {G : gz_G} {B : gz_B} {h h' : gz_H} {s : State} {H H1 : Heap} {locs locs1 : List Loc} {kc ks : Nat} (Y : gz_Y G B h s H locs kc ks) (hs : h'.1 = h.1) (hP : va_P G.2.2.2.2.2.1 gz_cl (gz_ws G h') H1) (hz : H1.size = H.size) (hS : va_S (gz_A G) s.heap H1 locs1) : gz_Y G B h' s H1 locs1 kc ks := by
  obtain ⟨⟨y1, y2, y3⟩, y4, y5, y6, y7, y8⟩ := Y
  exact ⟨⟨hP, by rw [hz, hs]; exact y2, by rw [hs]; exact y3⟩, hS, by rw [hs]; exact y5, by rw [hs]; exact y6, by rw [hs]; exact y7, by rw [hs]; exact y8⟩
/-- a field's link for writing -/
def gz_fw (M : gz_M) (idx ci k N : Nat) : Prop := ∃ (C : String) (T : u_T), gz_cl[ci]? = some (C, T, N) ∧ k < N ∧ Cond.fieldLink M.1 idx (T k).1 (T k).2.1 (T k).2.2.1 ∈ gz_TB ∧ ((T k).2.2.2 = false ∨ ((T k).2.2.2 = true ∧ M.2.1.name = "<init>" ∧ (T k).1 = M.1))
set_option maxHeartbeats 1000000 in
theorem gz_put {G : gz_G} {M : gz_M} {B : gz_B} {pc : Nat} {lo st : List Value} {h h' : gz_H} {Q : Option Value → gz_H → Prop} {idx ci k N a : Nat} {v : Value} (hd : decode M.2.2.1 pc = .ok (.putfield idx, 3)) (hk : gz_fw M idx ci k N) (hs : h.1[a]? = some (ci, N)) (hn : narrow (gz_ty ci k) (gz_v G v) = gz_v G v) (hft : fits (gz_ty ci k) (gz_v G v) = true)
    (h1 : h'.1 = h.1) (hI : ∀ b, b ≠ a → h'.2.1 b = h.2.1 b) (hL : ∀ b, b ≠ a → h'.2.2.1 b = h.2.2.1 b) (hR : ∀ b, b ≠ a → h'.2.2.2 b = h.2.2.2 b)
    (hv : gz_fv G (gz_ty ci k) (h'.2.1 a k) (h'.2.2.1 a k) (h'.2.2.2 a k) = gz_v G v) (ho : ∀ i, i ≠ k → gz_fv G (gz_ty ci i) (h'.2.1 a i) (h'.2.2.1 a i) (h'.2.2.2 a i) = gz_fv G (gz_ty ci i) (h.2.1 a i) (h.2.2.1 a i) (h.2.2.2 a i))
    (kk : gz_Ok G M B (pc + 3) lo st h' Q) : gz_Ok G M B pc lo (v :: .ref a :: st) h Q := by
  intro p l e R s m args below meth c Z X H locs ls kc ks Y hl
  obtain ⟨C, T, hc, hkN, hlk, hfin⟩ := hk
  have e0 := gz_ra Y.1 hs
  have hw := gz_ws_get (G := G) hs
  have hset := gz_ws_set (G := G) hs h1 hI hL hR
  rw [gz_E_obj (gz_cl_lt hc)] at hw hset
  rw [← gz_map_set (fun i => gz_fv G (gz_ty ci i) (h.2.1 a i) (h.2.2.1 a i) (h.2.2.2 a i)) (fun i => gz_fv G (gz_ty ci i) (h'.2.1 a i) (h'.2.2.1 a i) (h'.2.2.2 a i)) hkN ho, hv] at hset
  obtain ⟨hin, htys, hnms⟩ := gz_cls ci C T N hc
  have hts := X.1.2.2.2.2
  have hK := X.2.2.2.1.1
  have hap := va_apart (own := M.1) hts hin (gz_ty ci) htys hnms hK hc
  show W p l e R s m args below meth c H locs kc ks Z (F0 m pc ls (gz_v G v :: .ref (gz_r G a) :: st.map (gz_v G)))
  rw [e0]
  obtain ⟨r, g1, cell, q1, q2, q3, q4⟩ := Y.1.1 a _ hw
  have hr : r = (C, T, N) := Option.some.inj (g1.symm.trans hc)
  subst hr
  obtain ⟨hS, hfc, kC, hkC, hkind⟩ := hK.1 ci _ hc
  obtain ⟨cf, kf, fi, f, hi, hsl⟩ := hS k hkN
  have hlay := hts _ (hin _ (u_in_lay hkN))
  unfold u_lay at hlay
  have hst := (u_facts hfc hkC (u_lays hts hin hkN) hi).1
  have fin : ∀ H' : Heap, H'[G.1 + a]? = some (cell.setSlot f.slot (gz_v G v)) → H'.size = H.size → (∀ q, q ≠ G.1 + a → H'[q]? = H[q]?) → W p l e R s m args below meth c H' (locs ++ [⟨G.1 + a, f.slot⟩]) kc ks Z (F0 m (pc + 3) ls (st.map (gz_v G))) := by
    intro H' e1 e2 e3
    rw [hsl] at e1 ⊢
    have hlen : k < ((List.range N).map (fun i => gz_fv G (gz_ty ci i) (h.2.1 a i) (h.2.2.1 a i) (h.2.2.2 a i))).length := by simpa using hkN
    have hP' := Y.1.1.set gz_wsD hw (e := .inr (ci, ((List.range N).map (fun i => gz_fv G (gz_ty ci i) (h.2.1 a i) (h.2.2.1 a i) (h.2.2.2 a i))).set k (gz_v G v))) ⟨_, hc, t_OB.to (V := updV (vp_V ((List.range N).map (fun i => gz_fv G (gz_ty ci i) (h.2.1 a i) (h.2.2.1 a i) (h.2.2.2 a i)))) k (gz_v G v)) ⟨_, e1, q2, q3, t_set q4 hap hkN (gz_v G v)⟩ (fun j _ => vp_updV_set hlen (gz_v G v) j)⟩ e3
    rw [hset] at hP'
    exact kk p l e R s m args below meth c Z X H' _ ls kc ks (Y.heap h1 hP' e2 (Y.2.1.put e2 e3 (by show G.1 ≤ G.1 + a; omega))) hl
  rcases hfin with hfin | ⟨hfin, hinit, hdecl⟩
  · rw [if_neg (by rw [hfin]; decide)] at hlay
    have h6 := u_store hfc hkC hkind hlay hi (htys k hkN) hn hft
    exact W.putK X.1.1 X.1.2.1 (f := f) ⟨X.1.2.2.2.1, hts _ hlk, ⟨_, _, _, hi⟩, hst⟩ (by rw [q2]; exact h6) q1 q3 (by rw [hsl]; exact k2_hasslot (q4 k hkN)) rfl rfl hd fin
  · rw [if_pos hfin] at hlay
    have hcf : m.cls = cf := by
      obtain ⟨_, _, c', _, _, _, -, -, hf', -, -, -, hown2, -⟩ := Cond.laysFinal_spec hlay
      have e1 : c' = cf := by have := hi.symm.trans hf'; simp at this; exact this.1.symm
      rw [hdecl] at hown2
      rw [← e1]; exact Option.some.inj (X.1.2.2.2.1.symm.trans hown2)
    have h6 := u_fits hfc hkC hkind (Or.inr hlay) hi (htys k hkN) hn hft
    exact W.putFinK X.1.1 X.1.2.1 X.1.2.2.2.1 (hts _ hlk) hi hst hcf (X.2.1 hinit) (by rw [q2]; exact h6) q1 q3 (by rw [hsl]; exact k2_hasslot (q4 k hkN)) rfl rfl hd fin
theorem gz_putI {G : gz_G} {M : gz_M} {B : gz_B} {pc : Nat} {lo st : List Value} {h : gz_H} {Q : Option Value → gz_H → Prop} {idx ci k N a : Nat} {v : Int32} (hd : decode M.2.2.1 pc = .ok (.putfield idx, 3)) (hk : gz_fw M idx ci k N) (ht : gz_isi (gz_ty ci k) = true) (hn : narrow (gz_ty ci k) (.int v) = .int v) (hft : fits (gz_ty ci k) (.int v) = true) (hs : h.1[a]? = some (ci, N))
    (kk : gz_Ok G M B (pc + 3) lo st (uI h a k v) Q) : gz_Ok G M B pc lo (.int v :: .ref a :: st) h Q := by
  refine gz_put (h' := uI h a k v) hd hk hs (v := .int v) hn hft rfl (fun b hb => va_up_ne _ _ hb) (fun _ _ => rfl) (fun _ _ => rfl) ?_ ?_ kk
  · have e : (uI h a k v).2.1 a k = v := by simp [uI, va_up, upd]
    rw [e]
    revert ht
    generalize gz_ty ci k = ty
    intro ht
    cases ty <;> first | rfl | cases ht
  · intro i hi
    have e : (uI h a k v).2.1 a i = h.2.1 a i := by simp [uI, va_up, upd, hi]
    rw [e]
    rfl
theorem gz_putL {G : gz_G} {M : gz_M} {B : gz_B} {pc : Nat} {lo st : List Value} {h : gz_H} {Q : Option Value → gz_H → Prop} {idx ci k N a : Nat} {v : Int64} (hd : decode M.2.2.1 pc = .ok (.putfield idx, 3)) (hk : gz_fw M idx ci k N) (ht : gz_ty ci k = .long) (hs : h.1[a]? = some (ci, N))
    (kk : gz_Ok G M B (pc + 3) lo st (uL h a k v) Q) : gz_Ok G M B pc lo (.long v :: .ref a :: st) h Q := by
  refine gz_put (h' := uL h a k v) hd hk hs (v := .long v) (by rw [ht]; rfl) (by rw [ht]; rfl) rfl (fun _ _ => rfl) (fun b hb => va_up_ne _ _ hb) (fun _ _ => rfl) ?_ ?_ kk
  · have e : (uL h a k v).2.2.1 a k = v := by simp [uL, va_up, vp_updL]
    rw [e, ht]
    rfl
  · intro i hi
    have e : (uL h a k v).2.2.1 a i = h.2.2.1 a i := by simp [uL, va_up, vp_updL, hi]
    rw [e]
    rfl
theorem gz_putR {G : gz_G} {M : gz_M} {B : gz_B} {pc : Nat} {lo st : List Value} {h : gz_H} {Q : Option Value → gz_H → Prop} {idx ci k N a r : Nat} (hd : decode M.2.2.1 pc = .ok (.putfield idx, 3)) (hk : gz_fw M idx ci k N) (ht : gz_isr (gz_ty ci k) = true) (hs : h.1[a]? = some (ci, N))
    (kk : gz_Ok G M B (pc + 3) lo st (uR h a k (some r)) Q) : gz_Ok G M B pc lo (.ref r :: .ref a :: st) h Q := by
  have hh : ∀ ty : FieldType, gz_isr ty = true → ∀ x : Nat, narrow ty (.ref x) = .ref x ∧ fits ty (.ref x) = true := by
    intro ty hty x
    cases ty <;> first | (cases hty; done) | exact ⟨rfl, rfl⟩
  refine gz_put (h' := uR h a k (some r)) hd hk hs (v := .ref r) (hh _ ht _).1 (hh _ ht _).2 rfl (fun _ _ => rfl) (fun _ _ => rfl) (fun b hb => va_up_ne _ _ hb) ?_ ?_ kk
  · have e : (uR h a k (some r)).2.2.2 a k = some r := by simp [uR, va_up]
    rw [e]
    revert ht
    generalize gz_ty ci k = ty
    intro ht
    cases ty <;> first | rfl | cases ht
  · intro i hi
    have e : (uR h a k (some r)).2.2.2 a i = h.2.2.2 a i := by simp [uR, va_up, hi]
    rw [e]
    rfl
/-! arrays -/
theorem gz_iald {G : gz_G} {M : gz_M} {B : gz_B} {pc : Nat} {lo st : List Value} {h : gz_H} {Q : Option Value → gz_H → Prop} {a : Nat} {i : Int32} (hd : decode M.2.2.1 pc = .ok (.iaload, 1)) (hs : gz_inb h a 10 i = true)
    (kk : gz_Ok G M B (pc + 1) lo (.int (h.2.1 a i.toNatClampNeg) :: st) h Q) : gz_Ok G M B pc lo (.int i :: .ref a :: st) h Q := by
  intro p l e R s m args below meth c Z X H locs ls kc ks Y hl
  obtain ⟨n, hs, hin⟩ := gz_inb_spec hs
  have hw := gz_ws_get (G := G) hs
  rw [gz_E_int] at hw
  show W p l e R s m args below meth c H locs kc ks Z (F0 m pc ls (.int i :: .ref (gz_r G a) :: st.map (gz_v G)))
  rw [gz_ra Y.1 hs]
  exact va_iald X.1.1 X.1.2.1 X.2.2.2.1.1 Y.1.1 a 0 hw rfl hin hd (kk p l e R s m args below meth c Z X H locs ls kc ks Y hl)
theorem gz_aald {G : gz_G} {M : gz_M} {B : gz_B} {pc : Nat} {lo st : List Value} {h : gz_H} {Q : Option Value → gz_H → Prop} {a kd r : Nat} {i : Int32} (hk : kd = 11 ∨ kd = 12 ∨ kd = 13) (hd : decode M.2.2.1 pc = .ok (.aaload, 1)) (hs : gz_inb h a kd i = true) (hr : h.2.2.2 a i.toNatClampNeg = some r)
    (kk : gz_Ok G M B (pc + 1) lo (.ref r :: st) h Q) : gz_Ok G M B pc lo (.int i :: .ref a :: st) h Q := by
  intro p l e R s m args below meth c Z X H locs ls kc ks Y hl
  obtain ⟨n, hs, hin⟩ := gz_inb_spec hs
  have hw := gz_ws_get (G := G) hs
  rw [gz_E_ref hk] at hw
  show W p l e R s m args below meth c H locs kc ks Z (F0 m pc ls (.int i :: .ref (gz_r G a) :: st.map (gz_v G)))
  rw [gz_ra Y.1 hs]
  have kW := kk p l e R s m args below meth c Z X H locs ls kc ks Y hl
  have hlt : i.toNatClampNeg < n := Nat.not_le.mp fun q => hin (Or.inr q)
  have hK := X.2.2.2.1.1.2
  obtain ⟨ty, hty, harr⟩ : ∃ ty : FieldType, ty.isReference = true ∧ ArrOfT s (G.2.2.2.2.2.2 kd) ty := by
    rcases hk with rfl | rfl | rfl
    · exact ⟨.object RX2, rfl, (hK 1 _ rfl).1⟩
    · exact ⟨.object RX3, rfl, (hK 2 _ rfl).1⟩
    · exact ⟨.array .int, rfl, (hK 3 _ rfl).1⟩
  exact W.aald (v := .ref (gz_r G r)) X.1.1 X.1.2.1 (Y.1.1 a _ hw) (harr n _) hty (fun q => by cases q) (by show ¬ (i < 0 ∨ (arrV _ _ _).slots.size ≤ _); rw [arrV_size]; exact hin) (by show (arrV _ _ _).slots[_]? = _; rw [arrV_read _ _ hlt]; show some (va_rf (Option.map (gz_r G) (h.2.2.2 a i.toNatClampNeg))) = _; rw [hr]; rfl) rfl rfl hd kW
def gz_len (h : gz_H) (a : Nat) : Option Int32 := match h.1[a]? with
  | some kn => if 10 ≤ kn.1 ∧ kn.1 ≤ 13 then some (Int32.ofNat kn.2) else none
  | none => none
theorem gz_alen {G : gz_G} {M : gz_M} {B : gz_B} {pc : Nat} {lo st : List Value} {h : gz_H} {Q : Option Value → gz_H → Prop} {a : Nat} {v : Int32} (hd : decode M.2.2.1 pc = .ok (.arraylength, 1)) (hs : gz_len h a = some v)
    (kk : gz_Ok G M B (pc + 1) lo (.int v :: st) h Q) : gz_Ok G M B pc lo (.ref a :: st) h Q := by
  intro p l e R s m args below meth c Z X H locs ls kc ks Y hl
  unfold gz_len at hs
  split at hs
  · rename_i kn hs2
    obtain ⟨kd, n⟩ := kn
    by_cases hkd : 10 ≤ kd ∧ kd ≤ 13
    · rw [if_pos hkd] at hs
      have hv : Int32.ofNat n = v := Option.some.inj hs
      have kW := kk p l e R s m args below meth c Z X H locs ls kc ks Y hl
      have hw := gz_ws_get (G := G) hs2
      show W p l e R s m args below meth c H locs kc ks Z (F0 m pc ls (.ref (gz_r G a) :: st.map (gz_v G)))
      rw [gz_ra Y.1 hs2]
      have hk : kd = 10 ∨ kd = 11 ∨ kd = 12 ∨ kd = 13 := by omega
      rcases hk with rfl | rfl | rfl | rfl
      · exact va_alen X.1.1 X.1.2.1 X.2.2.2.1.1 Y.1.1 a 0 hw rfl hv hd kW
      · exact va_alen X.1.1 X.1.2.1 X.2.2.2.1.1 Y.1.1 a 1 hw rfl hv hd kW
      · exact va_alen X.1.1 X.1.2.1 X.2.2.2.1.1 Y.1.1 a 2 hw rfl hv hd kW
      · exact va_alen X.1.1 X.1.2.1 X.2.2.2.1.1 Y.1.1 a 3 hw rfl hv hd kW
    · rw [if_neg hkd] at hs
      cases hs
  · cases hs
theorem gz_iast {G : gz_G} {M : gz_M} {B : gz_B} {pc : Nat} {lo st : List Value} {h : gz_H} {Q : Option Value → gz_H → Prop} {a : Nat} {i x : Int32} (hd : decode M.2.2.1 pc = .ok (.iastore, 1)) (hs : gz_inb h a 10 i = true)
    (kk : gz_Ok G M B (pc + 1) lo st (uI h a i.toNatClampNeg x) Q) : gz_Ok G M B pc lo (.int x :: .int i :: .ref a :: st) h Q := by
  intro p l e R s m args below meth c Z X H locs ls kc ks Y hl
  obtain ⟨n, hs, hin⟩ := gz_inb_spec hs
  have hw := gz_ws_get (G := G) hs
  have hset := gz_ws_set (G := G) (h' := uI h a i.toNatClampNeg x) hs rfl (fun b hb => va_up_ne _ _ hb) (fun _ _ => rfl) (fun _ _ => rfl)
  have ea : (uI h a i.toNatClampNeg x).2.1 a = upd (h.2.1 a) i.toNatClampNeg x := va_up_self _ _ _
  rw [ea, gz_E_int] at hset
  rw [gz_E_int] at hw
  show W p l e R s m args below meth c H locs kc ks Z (F0 m pc ls (.int x :: .int i :: .ref (gz_r G a) :: st.map (gz_v G)))
  rw [gz_ra Y.1 hs]
  have hc : H[G.1 + a]? = some (vp_cell (G.2.2.2.2.2.2 10) (n, .inl (h.2.1 a))) := Y.1.1 a _ hw
  refine W.iast X.1.1 X.1.2.1 hc ((X.2.2.2.1.1.2 0 _ rfl).1 n _) (fun q => by cases q) (by show ¬ (i < 0 ∨ (arrV _ _ _).slots.size ≤ _); rw [arrV_size]; exact hin) rfl rfl hd fun H1 e z oq => ?_
  have hP' := Y.1.1.set gz_wsD hw (e := .inl (G.2.2.2.2.2.2 10, n, .inl (upd (h.2.1 a) i.toNatClampNeg x))) (by
    show H1[G.1 + a]? = some (vp_cell _ _)
    rw [e, vp_cell_i, vp_cell_i, arrV_store]
    congr 2
    funext q
    by_cases hq : q = i.toNatClampNeg
    · subst hq
      simp [updV, upd]
    · simp [updV, upd, hq]) oq
  rw [hset] at hP'
  exact kk p l _ R s m args below meth c Z X H1 _ ls kc ks (Y.heap rfl hP' z (Y.2.1.put z oq (by show G.1 ≤ G.1 + a; omega))) hl
theorem gz_aast {G : gz_G} {M : gz_M} {B : gz_B} {pc : Nat} {lo st : List Value} {h : gz_H} {Q : Option Value → gz_H → Prop} {a kd ci N r : Nat} {i : Int32} (hk : (kd = 11 ∧ ci = 2 ∧ N = 6) ∨ (kd = 12 ∧ ci = 3 ∧ N = 2)) (hd : decode M.2.2.1 pc = .ok (.aastore, 1)) (hs : gz_inb h a kd i = true) (hv : h.1[r]? = some (ci, N))
    (kk : gz_Ok G M B (pc + 1) lo st (uR h a i.toNatClampNeg (some r)) Q) : gz_Ok G M B pc lo (.ref r :: .int i :: .ref a :: st) h Q := by
  intro p l e R s m args below meth c Z X H locs ls kc ks Y hl
  obtain ⟨n, hs, hin⟩ := gz_inb_spec hs
  have hk2 : kd = 11 ∨ kd = 12 ∨ kd = 13 := by omega
  have hw := gz_ws_get (G := G) hs
  have hset := gz_ws_set (G := G) (h' := uR h a i.toNatClampNeg (some r)) hs rfl (fun _ _ => rfl) (fun _ _ => rfl) (fun b hb => va_up_ne _ _ hb)
  have ea : (uR h a i.toNatClampNeg (some r)).2.2.2 a = va_up (h.2.2.2 a) i.toNatClampNeg (some r) := va_up_self _ _ _
  rw [ea, gz_E_ref hk2] at hset
  rw [gz_E_ref hk2] at hw
  show W p l e R s m args below meth c H locs kc ks Z (F0 m pc ls (.ref (gz_r G r) :: .int i :: .ref (gz_r G a) :: st.map (gz_v G)))
  rw [gz_ra Y.1 hs]
  have er := gz_ra Y.1 hv
  rw [er]
  have hcN : ci < 10 := by omega
  have hwv := gz_ws_get (G := G) hv
  rw [gz_E_obj hcN] at hwv
  have hlt : i.toNatClampNeg < n := Nat.not_le.mp fun q => hin (Or.inr q)
  have h0 : ¬ i < 0 := fun q => hin (Or.inl q)
  obtain ⟨r', hr', cellV, g1, g2, g3, -⟩ := Y.1.1 r _ hwv
  have hK := X.2.2.2.1.1
  obtain ⟨C, T, hc, kA, k1, k2⟩ : ∃ (C : String) (T : u_T), gz_cl[ci]? = some (C, T, N) ∧ ∃ kA : Class, s.vm.classes[G.2.2.2.2.2.2 kd]? = some kA ∧ kA.kind = .array (G.2.2.2.2.2.1.1 ci) (.object C) := by
    rcases hk with ⟨rfl, rfl, rfl⟩ | ⟨rfl, rfl, rfl⟩
    · refine ⟨RX2, TX2, rfl, ?_⟩
      obtain ⟨kA, comp, k1, k2, k3, -⟩ := (hK.2 1 _ rfl).2
      have := Option.some.inj (k3.symm.trans (hK.1 2 _ rfl).2.1)
      subst this
      exact ⟨kA, k1, k2⟩
    · refine ⟨RX3, TX3, rfl, ?_⟩
      obtain ⟨kA, comp, k1, k2, k3, -⟩ := (hK.2 2 _ rfl).2
      have := Option.some.inj (k3.symm.trans (hK.1 3 _ rfl).2.1)
      subst this
      exact ⟨kA, k1, k2⟩
  have hcls := (hK.1 ci _ hc).2
  obtain ⟨kC, hkC, -⟩ := hcls.2
  refine W.aast X.1.1 X.1.2.1 (Y.1.1 a _ hw) (fun q h => by cases h) (fun h => by cases h) k1 k2 rfl hkC ⟨h0, by show _ < (arrV _ _ _).slots.size; rw [arrV_size]; exact hlt⟩ g1 (fun q h => by rw [g3] at h; cases h) (by rw [g2]; exact hkC) (by rw [g2]; exact va_assign hcls) rfl rfl hd fun H1 e z oq => ?_
  have hP' := Y.1.1.set gz_wsD hw (e := .inl (G.2.2.2.2.2.2 kd, n, .inr (.inr (.inr (.inr (fun j => (va_up (h.2.2.2 a) i.toNatClampNeg (some r) j).map (gz_r G))))))) (by
    show H1[G.1 + a]? = some (vp_cell _ _)
    rw [e, vp_cell_q, vp_cell_q, arrV_store]
    congr 2
    funext q
    by_cases hq : q = i.toNatClampNeg
    · subst hq
      simp [updV, va_up, va_rf, er]
    · simp [updV, va_up, hq]) oq
  rw [hset] at hP'
  exact kk p l _ R s m args below meth c Z X H1 _ ls kc ks (Y.heap rfl hP' z (Y.2.1.put z oq (by show G.1 ≤ G.1 + a; omega))) hl
