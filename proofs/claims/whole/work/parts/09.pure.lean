/-! PURE PROGRAMS: what a method does, as a function; gz_g x Q: it comes to an answer, with Q -/
def gz_g {α : Type} (x : Option (α × gz_H)) (Q : α → gz_H → Prop) : Prop := match x with
  | some r => Q r.1 r.2
  | none => False
def gz_ck {α : Type} (b : Bool) (t : Option α) : Option α := match b with
  | true => t
  | false => none
def gz_sh (h : gz_H) (a ci N : Nat) : Bool := decide (h.1[a]? = some (ci, N))
def gz_nzI (y : Int32) : Bool := decide (¬ y = 0)
def gz_nzL (y : Int64) : Bool := decide (¬ y = 0)
def gz_bo (v : Int32) : Bool := decide (v = 0 ∨ v = 1)
def gz_dc (c : Prop) [Decidable c] : Bool := decide c
theorem gz_shs {h : gz_H} {a ci N : Nat} (c : gz_sh h a ci N = true) : h.1[a]? = some (ci, N) := of_decide_eq_true c
theorem gz_nzIs {y : Int32} (c : gz_nzI y = true) : ¬ y = 0 := of_decide_eq_true c
theorem gz_nzLs {y : Int64} (c : gz_nzL y = true) : ¬ y = 0 := of_decide_eq_true c
theorem gz_bos {v : Int32} (c : gz_bo v = true) : v = 0 ∨ v = 1 := of_decide_eq_true c
theorem gz_dcs {c : Prop} [Decidable c] (h : gz_dc c = true) : c := of_decide_eq_true h
def gz_lt {α β : Type} (x : α) (f : α → β) : β := f x
def gz_b2 {α β : Type} (x : Option (α × gz_H)) (f : α → gz_H → Option β) : Option β := match x with
  | some r => f r.1 r.2
  | none => none
def gz_br {β : Type} (x : Option Nat) (f : Nat → Option β) : Option β := match x with
  | some r => f r
  | none => none
def gz_bi {β : Type} (x : Option Int32) (f : Int32 → Option β) : Option β := match x with
  | some r => f r
  | none => none
def gz_fu : Nat := 100000
theorem gz_g_none {α : Type} {Q : α → gz_H → Prop} {P : Prop} (h : gz_g (none : Option (α × gz_H)) Q) : P := h.elim
theorem gz_gk {α : Type} {b : Bool} {t : Option (α × gz_H)} {Q : α → gz_H → Prop} {P : Prop} (h : gz_g (gz_ck b t) Q) (k : b = true → gz_g t Q → P) : P := by
  cases b with
  | true => exact k rfl h
  | false => exact h.elim
theorem gz_gT {α : Type} {c : Prop} [Decidable c] {t e : Option (α × gz_H)} {Q : α → gz_H → Prop} (h : gz_g (if c then t else e) Q) (hc : c) : gz_g t Q := by rw [if_pos hc] at h; exact h
theorem gz_gF {α : Type} {c : Prop} [Decidable c] {t e : Option (α × gz_H)} {Q : α → gz_H → Prop} (h : gz_g (if c then t else e) Q) (hc : ¬ c) : gz_g e Q := by rw [if_neg hc] at h; exact h
theorem gz_gl {α β : Type} {x y : β} {f : β → Option (α × gz_H)} {Q : α → gz_H → Prop} (e : y = x) (h : gz_g (gz_lt x f) Q) : gz_g (f y) Q := by subst e; exact h
theorem gz_gb {α : Type} {x : Option Nat} {f : Nat → Option (α × gz_H)} {Q : α → gz_H → Prop} {P : Prop} (h : gz_g (gz_br x f) Q) (k : ∀ r : Nat, x = some r → gz_g (f r) Q → P) : P := by
  cases x with
  | none => exact h.elim
  | some r => exact k r rfl h
theorem gz_gi {α : Type} {x : Option Int32} {f : Int32 → Option (α × gz_H)} {Q : α → gz_H → Prop} {P : Prop} (h : gz_g (gz_bi x f) Q) (k : ∀ r : Int32, x = some r → gz_g (f r) Q → P) : P := by
  cases x with
  | none => exact h.elim
  | some r => exact k r rfl h
theorem gz_gc {α β : Type} {x : Option (α × gz_H)} {f : α → gz_H → Option (β × gz_H)} {Q : β → gz_H → Prop} (h : gz_g (gz_b2 x f) Q) : gz_g x (fun y h1 => gz_g (f y h1) Q) := by
  cases x with
  | none => exact h.elim
  | some r => exact h
def gz_qu (Q : Unit → gz_H → Prop) : Option Value → gz_H → Prop := fun v h => v = none ∧ Q () h
theorem gz_uret {G : gz_G} {M : gz_M} {d l0 s0 : Nat} {pc : Nat} {lo : List Value} {h : gz_H} {Qi : Unit → gz_H → Prop} (hd : decode M.2.2.1 pc = .ok (.return_, 1)) (hr : M.2.2.2.2 = none) (hq : Qi () h) : gz_Ok G M (d, l0, s0, 0, 0) pc lo [] h (gz_qu Qi) := gz_vret (Qi := fun h => Qi () h) (h := h) (st := []) (Q := gz_qu Qi) hd hr hq
theorem gz_uretA {G : gz_G} {M : gz_M} {d l0 s0 mc ms : Nat} {pc : Nat} {lo : List Value} {h : gz_H} {Qi : Unit → gz_H → Prop} (hd : decode M.2.2.1 pc = .ok (.return_, 1)) (hr : M.2.2.2.2 = none) (h1 : l0 + mc = h.1.length) (h2 : s0 + ms = gz_ss h.1) (hq : Qi () h) : gz_Ok G M (d, l0, s0, mc, ms) pc lo [] h (gz_qu Qi) := gz_vretA (Qi := fun h => Qi () h) (h := h) (st := []) (Q := gz_qu Qi) hd hr h1 h2 hq
theorem gz_iretA {G : gz_G} {M : gz_M} {d l0 s0 mc ms : Nat} {pc : Nat} {lo : List Value} {h : gz_H} {x : Int32} {ty : FieldType} {Qi : Int32 → gz_H → Prop} (hd : decode M.2.2.1 pc = .ok (.ireturn, 1)) (hr : M.2.2.2.2 = some ty) (hn : narrow ty (.int x) = .int x) (h1 : l0 + mc = h.1.length) (h2 : s0 + ms = gz_ss h.1) (hq : Qi x h) : gz_Ok G M (d, l0, s0, mc, ms) pc lo [.int x] h (gz_qi Qi) := by
  intro p l e R s m args below meth c Z X H locs ls kc ks Y hl
  exact X.2.2.2.2 (some (.int x)) h H locs ls kc ks pc ⟨x, rfl, hq⟩ Y (Nat.le_of_eq h1) (Nat.le_of_eq h2) ⟨hd, ty, hr, hn⟩
/-! calls by the kind of answer, that make nothing -/
theorem gz_cSI {G : gz_G} {M : gz_M} {B : gz_B} {pc : Nat} {lo st stk : List Value} {h : gz_H} {Q : Option Value → gz_H → Prop} {idx n d : Nat} {Mj : gz_M} {av : List Value} {Q2 : Int32 → gz_H → Prop} (hd : decode M.2.2.1 pc = .ok (.invokestatic idx, 3)) (hk : gz_lk 0 M.1 idx Mj n) (hn : av.length = n) (hst : stk = av.reverse ++ st) (hcat : (st.map fun v => v.category).sum ≤ 8) (hB : d + 1 ≤ B.1) (hc : gz_Cl G Mj d 0 0 av h (gz_qi Q2)) (kk : ∀ (r : Int32) (h1 : gz_H), Q2 r h1 → gz_Ok G M B (pc + 3) lo (.int r :: st) h1 Q) : gz_Ok G M B pc lo stk h Q := by
  intro p l e R s m args below meth c Z X H locs ls kc ks Y hl
  exact gz_callS hd hk hn hst hcat hB ⟨by have := Y.2.2.2.2.1; omega, by have := Y.2.2.2.2.2; omega⟩ hc (fun v h1 hq => by obtain ⟨r, rfl, hq⟩ := hq; exact kk r h1 hq) p l e R s m args below meth c Z X H locs ls kc ks Y hl
theorem gz_cVI {G : gz_G} {M : gz_M} {B : gz_B} {pc : Nat} {lo st stk : List Value} {h : gz_H} {Q : Option Value → gz_H → Prop} {idx n d : Nat} {Mj : gz_M} {av : List Value} {a ci N : Nat} {T : u_T} {Q2 : Int32 → gz_H → Prop} (hd : decode M.2.2.1 pc = .ok (.invokevirtual idx, 3)) (hk : gz_lk 1 M.1 idx Mj n) (hci : gz_cl[ci]? = some (Mj.2.1.cls, T, N)) (hs : h.1[a]? = some (ci, N)) (hn : av.length = n) (hst : stk = av.reverse ++ .ref a :: st) (hcat : (st.map fun v => v.category).sum ≤ 8) (hB : d + 1 ≤ B.1) (hc : gz_Cl G Mj d 0 0 (.ref a :: av) h (gz_qi Q2)) (kk : ∀ (r : Int32) (h1 : gz_H), Q2 r h1 → gz_Ok G M B (pc + 3) lo (.int r :: st) h1 Q) : gz_Ok G M B pc lo stk h Q := by
  intro p l e R s m args below meth c Z X H locs ls kc ks Y hl
  exact gz_callV hd hk hci hs hn hst hcat hB ⟨by have := Y.2.2.2.2.1; omega, by have := Y.2.2.2.2.2; omega⟩ hc (fun v h1 hq => by obtain ⟨r, rfl, hq⟩ := hq; exact kk r h1 hq) p l e R s m args below meth c Z X H locs ls kc ks Y hl
theorem gz_cSL {G : gz_G} {M : gz_M} {B : gz_B} {pc : Nat} {lo st stk : List Value} {h : gz_H} {Q : Option Value → gz_H → Prop} {idx n d : Nat} {Mj : gz_M} {av : List Value} {Q2 : Int64 → gz_H → Prop} (hd : decode M.2.2.1 pc = .ok (.invokestatic idx, 3)) (hk : gz_lk 0 M.1 idx Mj n) (hn : av.length = n) (hst : stk = av.reverse ++ st) (hcat : (st.map fun v => v.category).sum ≤ 8) (hB : d + 1 ≤ B.1) (hc : gz_Cl G Mj d 0 0 av h (gz_ql Q2)) (kk : ∀ (r : Int64) (h1 : gz_H), Q2 r h1 → gz_Ok G M B (pc + 3) lo (.long r :: st) h1 Q) : gz_Ok G M B pc lo stk h Q := by
  intro p l e R s m args below meth c Z X H locs ls kc ks Y hl
  exact gz_callS hd hk hn hst hcat hB ⟨by have := Y.2.2.2.2.1; omega, by have := Y.2.2.2.2.2; omega⟩ hc (fun v h1 hq => by obtain ⟨r, rfl, hq⟩ := hq; exact kk r h1 hq) p l e R s m args below meth c Z X H locs ls kc ks Y hl
theorem gz_cVL {G : gz_G} {M : gz_M} {B : gz_B} {pc : Nat} {lo st stk : List Value} {h : gz_H} {Q : Option Value → gz_H → Prop} {idx n d : Nat} {Mj : gz_M} {av : List Value} {a ci N : Nat} {T : u_T} {Q2 : Int64 → gz_H → Prop} (hd : decode M.2.2.1 pc = .ok (.invokevirtual idx, 3)) (hk : gz_lk 1 M.1 idx Mj n) (hci : gz_cl[ci]? = some (Mj.2.1.cls, T, N)) (hs : h.1[a]? = some (ci, N)) (hn : av.length = n) (hst : stk = av.reverse ++ .ref a :: st) (hcat : (st.map fun v => v.category).sum ≤ 8) (hB : d + 1 ≤ B.1) (hc : gz_Cl G Mj d 0 0 (.ref a :: av) h (gz_ql Q2)) (kk : ∀ (r : Int64) (h1 : gz_H), Q2 r h1 → gz_Ok G M B (pc + 3) lo (.long r :: st) h1 Q) : gz_Ok G M B pc lo stk h Q := by
  intro p l e R s m args below meth c Z X H locs ls kc ks Y hl
  exact gz_callV hd hk hci hs hn hst hcat hB ⟨by have := Y.2.2.2.2.1; omega, by have := Y.2.2.2.2.2; omega⟩ hc (fun v h1 hq => by obtain ⟨r, rfl, hq⟩ := hq; exact kk r h1 hq) p l e R s m args below meth c Z X H locs ls kc ks Y hl
theorem gz_cSV {G : gz_G} {M : gz_M} {B : gz_B} {pc : Nat} {lo st stk : List Value} {h : gz_H} {Q : Option Value → gz_H → Prop} {idx n d : Nat} {Mj : gz_M} {av : List Value} {Q2 : Unit → gz_H → Prop} (hd : decode M.2.2.1 pc = .ok (.invokestatic idx, 3)) (hk : gz_lk 0 M.1 idx Mj n) (hn : av.length = n) (hst : stk = av.reverse ++ st) (hcat : (st.map fun v => v.category).sum ≤ 8) (hB : d + 1 ≤ B.1) (hc : gz_Cl G Mj d 0 0 av h (gz_qu Q2)) (kk : ∀ (r : Unit) (h1 : gz_H), Q2 r h1 → gz_Ok G M B (pc + 3) lo (st) h1 Q) : gz_Ok G M B pc lo stk h Q := by
  intro p l e R s m args below meth c Z X H locs ls kc ks Y hl
  exact gz_callS hd hk hn hst hcat hB ⟨by have := Y.2.2.2.2.1; omega, by have := Y.2.2.2.2.2; omega⟩ hc (fun v h1 hq => by obtain ⟨rfl, hq⟩ := hq; exact kk () h1 hq) p l e R s m args below meth c Z X H locs ls kc ks Y hl
theorem gz_cVV {G : gz_G} {M : gz_M} {B : gz_B} {pc : Nat} {lo st stk : List Value} {h : gz_H} {Q : Option Value → gz_H → Prop} {idx n d : Nat} {Mj : gz_M} {av : List Value} {a ci N : Nat} {T : u_T} {Q2 : Unit → gz_H → Prop} (hd : decode M.2.2.1 pc = .ok (.invokevirtual idx, 3)) (hk : gz_lk 1 M.1 idx Mj n) (hci : gz_cl[ci]? = some (Mj.2.1.cls, T, N)) (hs : h.1[a]? = some (ci, N)) (hn : av.length = n) (hst : stk = av.reverse ++ .ref a :: st) (hcat : (st.map fun v => v.category).sum ≤ 8) (hB : d + 1 ≤ B.1) (hc : gz_Cl G Mj d 0 0 (.ref a :: av) h (gz_qu Q2)) (kk : ∀ (r : Unit) (h1 : gz_H), Q2 r h1 → gz_Ok G M B (pc + 3) lo (st) h1 Q) : gz_Ok G M B pc lo stk h Q := by
  intro p l e R s m args below meth c Z X H locs ls kc ks Y hl
  exact gz_callV hd hk hci hs hn hst hcat hB ⟨by have := Y.2.2.2.2.1; omega, by have := Y.2.2.2.2.2; omega⟩ hc (fun v h1 hq => by obtain ⟨rfl, hq⟩ := hq; exact kk () h1 hq) p l e R s m args below meth c Z X H locs ls kc ks Y hl
theorem gz_cIV {G : gz_G} {M : gz_M} {B : gz_B} {pc : Nat} {lo st stk : List Value} {h : gz_H} {Q : Option Value → gz_H → Prop} {idx n d mc ms a : Nat} {R' : String} {y' : MethodName} {cd' : ByteArray} {mx' : Nat} {av : List Value} {Q2 : Unit → gz_H → Prop} (hd : decode M.2.2.1 pc = .ok (.invokespecial idx, 3)) (hk : gz_lk 2 M.1 idx (R', y', cd', mx', none) n) (hn : av.length = n) (hst : stk = av.reverse ++ .ref a :: st) (hcat : (st.map fun v => v.category).sum ≤ 8) (hB : d + 1 ≤ B.1)
    (hb : h.1.length + mc ≤ B.2.1 + B.2.2.2.1 ∧ gz_ss h.1 + ms ≤ B.2.2.1 + B.2.2.2.2) (hc : gz_Cl G (R', y', cd', mx', none) d mc ms (.ref a :: av) h (gz_qu Q2)) (kk : ∀ (r : Unit) (h1 : gz_H), Q2 r h1 → gz_Ok G M B (pc + 3) lo st h1 Q) : gz_Ok G M B pc lo stk h Q :=
  gz_callI hd hk hn hst hcat hB hb hc (fun v h1 hq => by obtain ⟨rfl, hq⟩ := hq; exact kk () h1 hq)
