theorem gz_irt {G : gz_G} {M : gz_M} {d l0 s0 pc : Nat} {lo : List Value} {h : gz_H} {x : Int32} {ty : FieldType} {Qi : Int32 → gz_H → Prop} (hd : decode M.2.2.1 pc = .ok (.ireturn, 1)) (hr : M.2.2.2.2 = some ty) (hn : narrow ty (.int x) = .int x) (hq : Qi x h) : gz_Ok G M (d, l0, s0, 0, 0) pc lo [.int x] h (gz_qi Qi) := gz_iret (st := []) (Q := fun _ _ => True) hd hr hn hq
theorem gz_lrt {G : gz_G} {M : gz_M} {d l0 s0 pc : Nat} {lo : List Value} {h : gz_H} {x : Int64} {Qi : Int64 → gz_H → Prop} (hd : decode M.2.2.1 pc = .ok (.lreturn, 1)) (hr : M.2.2.2.2 = some .long) (hq : Qi x h) : gz_Ok G M (d, l0, s0, 0, 0) pc lo [.long x] h (gz_ql Qi) := gz_lret (st := []) (Q := fun _ _ => True) hd hr hq
/-! Math.max, Math.min -/
def gz_mx (x y : Int32) : Int32 := if x < y then y else x
def gz_lkX (own : String) (idx : Nat) : Prop := Cond.methodLink own idx Lib.Math.max.name ∈ gz_TB ∧ Cond.static Lib.Math.max.name ∈ gz_TB ∧ Cond.initialized "java/lang/Math" ∈ gz_TB ∧ Cond.code Lib.Math.max.name Lib.Math.max.code 2 (some .int) ∈ gz_TB
theorem gz_max {G : gz_G} {M : gz_M} {B : gz_B} {pc : Nat} {lo st : List Value} {h : gz_H} {Q : Option Value → gz_H → Prop} {idx : Nat} {x y : Int32} (hd : decode M.2.2.1 pc = .ok (.invokestatic idx, 3)) (hk : gz_lkX M.1 idx) (hB : 1 ≤ B.1) (hcat : (st.map fun v => v.category).sum ≤ 8)
    (kk : gz_Ok G M B (pc + 3) lo (.int (gz_mx x y) :: st) h Q) : gz_Ok G M B pc lo (.int y :: .int x :: st) h Q := by
  intro p l e R s m args below meth c Z X H locs ls kc ks Y hl
  have hts := X.1.2.2.2.2
  have hcs := gz_catS (G := G) hcat
  have hR := X.2.2.1
  have hroom := gz_room (mc := 0) (ms := 0) Y hR ⟨by have := Y.2.2.2.2.1; omega, by have := Y.2.2.2.2.2; omega⟩
  exact va_mmax X.1.1 X.1.2.1 (by rw [X.1.2.2.1]; exact hl.1.symm) X.1.2.2.2.1 (hts _ hk.1) (hts _ hk.2.1) (hts _ hk.2.2.1) (hts _ hk.2.2.2) (by omega) (by omega) hroom.1 hroom.2 hd (kk p l e R s m args below meth c Z X H locs ls kc ks Y hl)
def gz_mn2 (x y : Int32) : Int32 := if y < x then y else x
def gz_lkI (own : String) (idx : Nat) : Prop := Cond.methodLink own idx Lib.Math.min.name ∈ gz_TB ∧ Cond.static Lib.Math.min.name ∈ gz_TB ∧ Cond.initialized "java/lang/Math" ∈ gz_TB ∧ Cond.code Lib.Math.min.name Lib.Math.min.code 2 (some .int) ∈ gz_TB
theorem gz_min {G : gz_G} {M : gz_M} {B : gz_B} {pc : Nat} {lo st : List Value} {h : gz_H} {Q : Option Value → gz_H → Prop} {idx : Nat} {x y : Int32} (hd : decode M.2.2.1 pc = .ok (.invokestatic idx, 3)) (hk : gz_lkI M.1 idx) (hB : 1 ≤ B.1) (hcat : (st.map fun v => v.category).sum ≤ 8)
    (kk : gz_Ok G M B (pc + 3) lo (.int (gz_mn2 x y) :: st) h Q) : gz_Ok G M B pc lo (.int y :: .int x :: st) h Q := by
  intro p l e R s m args below meth c Z X H locs ls kc ks Y hl
  have hts := X.1.2.2.2.2
  have hcs := gz_catS (G := G) hcat
  have hR := X.2.2.1
  have hroom := gz_room (mc := 0) (ms := 0) Y hR ⟨by have := Y.2.2.2.2.1; omega, by have := Y.2.2.2.2.2; omega⟩
  exact va_mmin X.1.1 X.1.2.1 (by rw [X.1.2.2.1]; exact hl.1.symm) X.1.2.2.2.1 (hts _ hk.1) (hts _ hk.2.1) (hts _ hk.2.2.1) (hts _ hk.2.2.2) (by omega) (by omega) hroom.1 hroom.2 hd (kk p l e R s m args below meth c Z X H locs ls kc ks Y hl)
