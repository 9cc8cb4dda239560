/-! THE STEPS: a row an instruction, over the judgement gz_Ok -/
theorem gz_iconst {G : gz_G} {M : gz_M} {B : gz_B} {pc : Nat} {lo st : List Value} {h : gz_H} {Q : Option Value → gz_H → Prop} {n : Int} {v : Int32} (hd : decode M.2.2.1 pc = .ok (.iconst n, 1)) (hv : Int32.ofInt n = v) (k : gz_Ok G M B (pc + 1) lo (.int v :: st) h Q) : gz_Ok G M B pc lo (st) h Q := by
  intro p l e R s m args below meth c Z X H locs ls kc ks Y hl
  exact lv_iconst X.1.1 X.1.2.1 hd hv (k p l e R s m args below meth c Z X H locs ls kc ks Y hl)
theorem gz_bipush {G : gz_G} {M : gz_M} {B : gz_B} {pc : Nat} {lo st : List Value} {h : gz_H} {Q : Option Value → gz_H → Prop} {n : Int} {v : Int32} (hd : decode M.2.2.1 pc = .ok (.bipush n, 2)) (hv : (Int8.ofInt n).toInt32 = v) (k : gz_Ok G M B (pc + 2) lo (.int v :: st) h Q) : gz_Ok G M B pc lo (st) h Q := by
  intro p l e R s m args below meth c Z X H locs ls kc ks Y hl
  exact lv_bipush X.1.1 X.1.2.1 hd hv (k p l e R s m args below meth c Z X H locs ls kc ks Y hl)
theorem gz_sipush {G : gz_G} {M : gz_M} {B : gz_B} {pc : Nat} {lo st : List Value} {h : gz_H} {Q : Option Value → gz_H → Prop} {n : Int} {v : Int32} (hd : decode M.2.2.1 pc = .ok (.sipush n, 3)) (hv : (Int16.ofInt n).toInt32 = v) (k : gz_Ok G M B (pc + 3) lo (.int v :: st) h Q) : gz_Ok G M B pc lo (st) h Q := by
  intro p l e R s m args below meth c Z X H locs ls kc ks Y hl
  exact lv_sipush X.1.1 X.1.2.1 hd hv (k p l e R s m args below meth c Z X H locs ls kc ks Y hl)
theorem gz_lconst {G : gz_G} {M : gz_M} {B : gz_B} {pc : Nat} {lo st : List Value} {h : gz_H} {Q : Option Value → gz_H → Prop} {n : Fin 2} {v : Int64} (hd : decode M.2.2.1 pc = .ok (.lconst n, 1)) (hv : Int64.ofNat (n : Nat) = v) (k : gz_Ok G M B (pc + 1) lo (.long v :: st) h Q) : gz_Ok G M B pc lo (st) h Q := by
  intro p l e R s m args below meth c Z X H locs ls kc ks Y hl
  exact lv_lconst X.1.1 X.1.2.1 hd hv (k p l e R s m args below meth c Z X H locs ls kc ks Y hl)
theorem gz_iload_n {G : gz_G} {M : gz_M} {B : gz_B} {pc : Nat} {lo st : List Value} {h : gz_H} {Q : Option Value → gz_H → Prop} {n : Fin 4} {i : Nat} {x : Int32} (hd : decode M.2.2.1 pc = .ok (.iload_n n, 1)) (hi : (n : Nat) = i) (hx : lo[i]? = some (.int x)) (k : gz_Ok G M B (pc + 1) lo (.int x :: st) h Q) : gz_Ok G M B pc lo (st) h Q := by
  intro p l e R s m args below meth c Z X H locs ls kc ks Y hl
  exact lv_iload_n X.1.1 X.1.2.1 hd hi (hl.2.2 i _ hx (fun _ q => by cases q)) (k p l e R s m args below meth c Z X H locs ls kc ks Y hl)
theorem gz_iload {G : gz_G} {M : gz_M} {B : gz_B} {pc : Nat} {lo st : List Value} {h : gz_H} {Q : Option Value → gz_H → Prop} {i : Nat} {x : Int32} (hd : decode M.2.2.1 pc = .ok (.iload i, 2)) (hx : lo[i]? = some (.int x)) (k : gz_Ok G M B (pc + 2) lo (.int x :: st) h Q) : gz_Ok G M B pc lo (st) h Q := by
  intro p l e R s m args below meth c Z X H locs ls kc ks Y hl
  exact lv_iload X.1.1 X.1.2.1 hd (hl.2.2 i _ hx (fun _ q => by cases q)) (k p l e R s m args below meth c Z X H locs ls kc ks Y hl)
theorem gz_lload_n {G : gz_G} {M : gz_M} {B : gz_B} {pc : Nat} {lo st : List Value} {h : gz_H} {Q : Option Value → gz_H → Prop} {n : Fin 4} {i : Nat} {x : Int64} (hd : decode M.2.2.1 pc = .ok (.lload_n n, 1)) (hi : (n : Nat) = i) (hx : lo[i]? = some (.long x)) (k : gz_Ok G M B (pc + 1) lo (.long x :: st) h Q) : gz_Ok G M B pc lo (st) h Q := by
  intro p l e R s m args below meth c Z X H locs ls kc ks Y hl
  exact lv_lload_n X.1.1 X.1.2.1 hd hi (hl.2.2 i _ hx (fun _ q => by cases q)) (k p l e R s m args below meth c Z X H locs ls kc ks Y hl)
theorem gz_lload {G : gz_G} {M : gz_M} {B : gz_B} {pc : Nat} {lo st : List Value} {h : gz_H} {Q : Option Value → gz_H → Prop} {i : Nat} {x : Int64} (hd : decode M.2.2.1 pc = .ok (.lload i, 2)) (hx : lo[i]? = some (.long x)) (k : gz_Ok G M B (pc + 2) lo (.long x :: st) h Q) : gz_Ok G M B pc lo (st) h Q := by
  intro p l e R s m args below meth c Z X H locs ls kc ks Y hl
  exact lv_lload X.1.1 X.1.2.1 hd (hl.2.2 i _ hx (fun _ q => by cases q)) (k p l e R s m args below meth c Z X H locs ls kc ks Y hl)
theorem gz_aload_n {G : gz_G} {M : gz_M} {B : gz_B} {pc : Nat} {lo st : List Value} {h : gz_H} {Q : Option Value → gz_H → Prop} {n : Fin 4} {i : Nat} {x : Nat} (hd : decode M.2.2.1 pc = .ok (.aload_n n, 1)) (hi : (n : Nat) = i) (hx : lo[i]? = some (.ref x)) (k : gz_Ok G M B (pc + 1) lo (.ref x :: st) h Q) : gz_Ok G M B pc lo (st) h Q := by
  intro p l e R s m args below meth c Z X H locs ls kc ks Y hl
  exact lv_aload_n X.1.1 X.1.2.1 hd hi (hl.2.2 i _ hx (fun _ q => by cases q)) (k p l e R s m args below meth c Z X H locs ls kc ks Y hl)
theorem gz_aload {G : gz_G} {M : gz_M} {B : gz_B} {pc : Nat} {lo st : List Value} {h : gz_H} {Q : Option Value → gz_H → Prop} {i : Nat} {x : Nat} (hd : decode M.2.2.1 pc = .ok (.aload i, 2)) (hx : lo[i]? = some (.ref x)) (k : gz_Ok G M B (pc + 2) lo (.ref x :: st) h Q) : gz_Ok G M B pc lo (st) h Q := by
  intro p l e R s m args below meth c Z X H locs ls kc ks Y hl
  exact lv_aload X.1.1 X.1.2.1 hd (hl.2.2 i _ hx (fun _ q => by cases q)) (k p l e R s m args below meth c Z X H locs ls kc ks Y hl)
theorem gz_iadd {G : gz_G} {M : gz_M} {B : gz_B} {pc : Nat} {lo st : List Value} {h : gz_H} {Q : Option Value → gz_H → Prop} {x y : Int32} (hd : decode M.2.2.1 pc = .ok (.iadd, 1)) (k : gz_Ok G M B (pc + 1) lo (.int (x + y) :: st) h Q) : gz_Ok G M B pc lo (.int y :: .int x :: st) h Q := by
  intro p l e R s m args below meth c Z X H locs ls kc ks Y hl
  exact lv_iadd X.1.1 X.1.2.1 hd (k p l e R s m args below meth c Z X H locs ls kc ks Y hl)
theorem gz_isub {G : gz_G} {M : gz_M} {B : gz_B} {pc : Nat} {lo st : List Value} {h : gz_H} {Q : Option Value → gz_H → Prop} {x y : Int32} (hd : decode M.2.2.1 pc = .ok (.isub, 1)) (k : gz_Ok G M B (pc + 1) lo (.int (x - y) :: st) h Q) : gz_Ok G M B pc lo (.int y :: .int x :: st) h Q := by
  intro p l e R s m args below meth c Z X H locs ls kc ks Y hl
  exact lv_isub X.1.1 X.1.2.1 hd (k p l e R s m args below meth c Z X H locs ls kc ks Y hl)
theorem gz_imul {G : gz_G} {M : gz_M} {B : gz_B} {pc : Nat} {lo st : List Value} {h : gz_H} {Q : Option Value → gz_H → Prop} {x y : Int32} (hd : decode M.2.2.1 pc = .ok (.imul, 1)) (k : gz_Ok G M B (pc + 1) lo (.int (x * y) :: st) h Q) : gz_Ok G M B pc lo (.int y :: .int x :: st) h Q := by
  intro p l e R s m args below meth c Z X H locs ls kc ks Y hl
  exact lv_imul X.1.1 X.1.2.1 hd (k p l e R s m args below meth c Z X H locs ls kc ks Y hl)
theorem gz_iand {G : gz_G} {M : gz_M} {B : gz_B} {pc : Nat} {lo st : List Value} {h : gz_H} {Q : Option Value → gz_H → Prop} {x y : Int32} (hd : decode M.2.2.1 pc = .ok (.iand, 1)) (k : gz_Ok G M B (pc + 1) lo (.int (x &&& y) :: st) h Q) : gz_Ok G M B pc lo (.int y :: .int x :: st) h Q := by
  intro p l e R s m args below meth c Z X H locs ls kc ks Y hl
  exact lv_iand X.1.1 X.1.2.1 hd (k p l e R s m args below meth c Z X H locs ls kc ks Y hl)
theorem gz_ior {G : gz_G} {M : gz_M} {B : gz_B} {pc : Nat} {lo st : List Value} {h : gz_H} {Q : Option Value → gz_H → Prop} {x y : Int32} (hd : decode M.2.2.1 pc = .ok (.ior, 1)) (k : gz_Ok G M B (pc + 1) lo (.int (x ||| y) :: st) h Q) : gz_Ok G M B pc lo (.int y :: .int x :: st) h Q := by
  intro p l e R s m args below meth c Z X H locs ls kc ks Y hl
  exact lv_ior X.1.1 X.1.2.1 hd (k p l e R s m args below meth c Z X H locs ls kc ks Y hl)
theorem gz_ixor {G : gz_G} {M : gz_M} {B : gz_B} {pc : Nat} {lo st : List Value} {h : gz_H} {Q : Option Value → gz_H → Prop} {x y : Int32} (hd : decode M.2.2.1 pc = .ok (.ixor, 1)) (k : gz_Ok G M B (pc + 1) lo (.int (x ^^^ y) :: st) h Q) : gz_Ok G M B pc lo (.int y :: .int x :: st) h Q := by
  intro p l e R s m args below meth c Z X H locs ls kc ks Y hl
  exact lv_ixor X.1.1 X.1.2.1 hd (k p l e R s m args below meth c Z X H locs ls kc ks Y hl)
theorem gz_ishl {G : gz_G} {M : gz_M} {B : gz_B} {pc : Nat} {lo st : List Value} {h : gz_H} {Q : Option Value → gz_H → Prop} {x y : Int32} (hd : decode M.2.2.1 pc = .ok (.ishl, 1)) (k : gz_Ok G M B (pc + 1) lo (.int (x <<< (y &&& 31)) :: st) h Q) : gz_Ok G M B pc lo (.int y :: .int x :: st) h Q := by
  intro p l e R s m args below meth c Z X H locs ls kc ks Y hl
  exact lv_ishl X.1.1 X.1.2.1 hd (k p l e R s m args below meth c Z X H locs ls kc ks Y hl)
theorem gz_ishr {G : gz_G} {M : gz_M} {B : gz_B} {pc : Nat} {lo st : List Value} {h : gz_H} {Q : Option Value → gz_H → Prop} {x y : Int32} (hd : decode M.2.2.1 pc = .ok (.ishr, 1)) (k : gz_Ok G M B (pc + 1) lo (.int (x >>> (y &&& 31)) :: st) h Q) : gz_Ok G M B pc lo (.int y :: .int x :: st) h Q := by
  intro p l e R s m args below meth c Z X H locs ls kc ks Y hl
  exact lv_ishr X.1.1 X.1.2.1 hd (k p l e R s m args below meth c Z X H locs ls kc ks Y hl)
theorem gz_iushr {G : gz_G} {M : gz_M} {B : gz_B} {pc : Nat} {lo st : List Value} {h : gz_H} {Q : Option Value → gz_H → Prop} {x y : Int32} (hd : decode M.2.2.1 pc = .ok (.iushr, 1)) (k : gz_Ok G M B (pc + 1) lo (.int ((x.toUInt32 >>> (y.toUInt32 &&& Int32.toUInt32 31)).toInt32) :: st) h Q) : gz_Ok G M B pc lo (.int y :: .int x :: st) h Q := by
  intro p l e R s m args below meth c Z X H locs ls kc ks Y hl
  exact lv_iushr X.1.1 X.1.2.1 hd rfl (k p l e R s m args below meth c Z X H locs ls kc ks Y hl)
theorem gz_idiv {G : gz_G} {M : gz_M} {B : gz_B} {pc : Nat} {lo st : List Value} {h : gz_H} {Q : Option Value → gz_H → Prop} {x y : Int32} (hd : decode M.2.2.1 pc = .ok (.idiv, 1)) (hne : ¬ y = 0) (k : gz_Ok G M B (pc + 1) lo (.int (x / y) :: st) h Q) : gz_Ok G M B pc lo (.int y :: .int x :: st) h Q := by
  intro p l e R s m args below meth c Z X H locs ls kc ks Y hl
  exact lv_idiv X.1.1 X.1.2.1 hd hne (k p l e R s m args below meth c Z X H locs ls kc ks Y hl)
theorem gz_irem {G : gz_G} {M : gz_M} {B : gz_B} {pc : Nat} {lo st : List Value} {h : gz_H} {Q : Option Value → gz_H → Prop} {x y : Int32} (hd : decode M.2.2.1 pc = .ok (.irem, 1)) (hne : ¬ y = 0) (k : gz_Ok G M B (pc + 1) lo (.int (x - x / y * y) :: st) h Q) : gz_Ok G M B pc lo (.int y :: .int x :: st) h Q := by
  intro p l e R s m args below meth c Z X H locs ls kc ks Y hl
  exact lv_irem X.1.1 X.1.2.1 hd hne (k p l e R s m args below meth c Z X H locs ls kc ks Y hl)
theorem gz_ineg {G : gz_G} {M : gz_M} {B : gz_B} {pc : Nat} {lo st : List Value} {h : gz_H} {Q : Option Value → gz_H → Prop} {x : Int32} (hd : decode M.2.2.1 pc = .ok (.ineg, 1)) (k : gz_Ok G M B (pc + 1) lo (.int (-x) :: st) h Q) : gz_Ok G M B pc lo (.int x :: st) h Q := by
  intro p l e R s m args below meth c Z X H locs ls kc ks Y hl
  exact lv_ineg X.1.1 X.1.2.1 hd (k p l e R s m args below meth c Z X H locs ls kc ks Y hl)
theorem gz_ladd {G : gz_G} {M : gz_M} {B : gz_B} {pc : Nat} {lo st : List Value} {h : gz_H} {Q : Option Value → gz_H → Prop} {x y : Int64} (hd : decode M.2.2.1 pc = .ok (.ladd, 1)) (k : gz_Ok G M B (pc + 1) lo (.long (x + y) :: st) h Q) : gz_Ok G M B pc lo (.long y :: .long x :: st) h Q := by
  intro p l e R s m args below meth c Z X H locs ls kc ks Y hl
  exact lv_ladd X.1.1 X.1.2.1 hd (k p l e R s m args below meth c Z X H locs ls kc ks Y hl)
theorem gz_lsub {G : gz_G} {M : gz_M} {B : gz_B} {pc : Nat} {lo st : List Value} {h : gz_H} {Q : Option Value → gz_H → Prop} {x y : Int64} (hd : decode M.2.2.1 pc = .ok (.lsub, 1)) (k : gz_Ok G M B (pc + 1) lo (.long (x - y) :: st) h Q) : gz_Ok G M B pc lo (.long y :: .long x :: st) h Q := by
  intro p l e R s m args below meth c Z X H locs ls kc ks Y hl
  exact lv_lsub X.1.1 X.1.2.1 hd (k p l e R s m args below meth c Z X H locs ls kc ks Y hl)
theorem gz_lmul {G : gz_G} {M : gz_M} {B : gz_B} {pc : Nat} {lo st : List Value} {h : gz_H} {Q : Option Value → gz_H → Prop} {x y : Int64} (hd : decode M.2.2.1 pc = .ok (.lmul, 1)) (k : gz_Ok G M B (pc + 1) lo (.long (x * y) :: st) h Q) : gz_Ok G M B pc lo (.long y :: .long x :: st) h Q := by
  intro p l e R s m args below meth c Z X H locs ls kc ks Y hl
  exact lv_lmul X.1.1 X.1.2.1 hd (k p l e R s m args below meth c Z X H locs ls kc ks Y hl)
theorem gz_ldiv {G : gz_G} {M : gz_M} {B : gz_B} {pc : Nat} {lo st : List Value} {h : gz_H} {Q : Option Value → gz_H → Prop} {x y : Int64} (hd : decode M.2.2.1 pc = .ok (.ldiv, 1)) (hne : ¬ y = 0) (k : gz_Ok G M B (pc + 1) lo (.long (x / y) :: st) h Q) : gz_Ok G M B pc lo (.long y :: .long x :: st) h Q := by
  intro p l e R s m args below meth c Z X H locs ls kc ks Y hl
  exact lv_ldiv X.1.1 X.1.2.1 hd hne (k p l e R s m args below meth c Z X H locs ls kc ks Y hl)
theorem gz_lrem {G : gz_G} {M : gz_M} {B : gz_B} {pc : Nat} {lo st : List Value} {h : gz_H} {Q : Option Value → gz_H → Prop} {x y : Int64} (hd : decode M.2.2.1 pc = .ok (.lrem, 1)) (hne : ¬ y = 0) (k : gz_Ok G M B (pc + 1) lo (.long (x - x / y * y) :: st) h Q) : gz_Ok G M B pc lo (.long y :: .long x :: st) h Q := by
  intro p l e R s m args below meth c Z X H locs ls kc ks Y hl
  exact lv_lrem X.1.1 X.1.2.1 hd hne (k p l e R s m args below meth c Z X H locs ls kc ks Y hl)
theorem gz_lcmp {G : gz_G} {M : gz_M} {B : gz_B} {pc : Nat} {lo st : List Value} {h : gz_H} {Q : Option Value → gz_H → Prop} {x y : Int64} (hd : decode M.2.2.1 pc = .ok (.lcmp, 1)) (k : gz_Ok G M B (pc + 1) lo (.int (lg_cmp x y) :: st) h Q) : gz_Ok G M B pc lo (.long y :: .long x :: st) h Q := by
  intro p l e R s m args below meth c Z X H locs ls kc ks Y hl
  exact W.lcmp X.1.1 X.1.2.1 hd (k p l e R s m args below meth c Z X H locs ls kc ks Y hl)
theorem gz_i2l {G : gz_G} {M : gz_M} {B : gz_B} {pc : Nat} {lo st : List Value} {h : gz_H} {Q : Option Value → gz_H → Prop} {x : Int32} (hd : decode M.2.2.1 pc = .ok (.i2l, 1)) (k : gz_Ok G M B (pc + 1) lo (.long x.toInt64 :: st) h Q) : gz_Ok G M B pc lo (.int x :: st) h Q := by
  intro p l e R s m args below meth c Z X H locs ls kc ks Y hl
  exact lv_i2l X.1.1 X.1.2.1 hd rfl (k p l e R s m args below meth c Z X H locs ls kc ks Y hl)
theorem gz_l2i {G : gz_G} {M : gz_M} {B : gz_B} {pc : Nat} {lo st : List Value} {h : gz_H} {Q : Option Value → gz_H → Prop} {x : Int64} (hd : decode M.2.2.1 pc = .ok (.l2i, 1)) (k : gz_Ok G M B (pc + 1) lo (.int x.toInt32 :: st) h Q) : gz_Ok G M B pc lo (.long x :: st) h Q := by
  intro p l e R s m args below meth c Z X H locs ls kc ks Y hl
  exact lv_l2i X.1.1 X.1.2.1 hd rfl (k p l e R s m args below meth c Z X H locs ls kc ks Y hl)
theorem gz_i2b {G : gz_G} {M : gz_M} {B : gz_B} {pc : Nat} {lo st : List Value} {h : gz_H} {Q : Option Value → gz_H → Prop} {x : Int32} (hd : decode M.2.2.1 pc = .ok (.i2b, 1)) (k : gz_Ok G M B (pc + 1) lo (.int x.toInt8.toInt32 :: st) h Q) : gz_Ok G M B pc lo (.int x :: st) h Q := by
  intro p l e R s m args below meth c Z X H locs ls kc ks Y hl
  exact lv_i2b X.1.1 X.1.2.1 hd rfl (k p l e R s m args below meth c Z X H locs ls kc ks Y hl)
theorem gz_dup {G : gz_G} {M : gz_M} {B : gz_B} {pc : Nat} {lo st : List Value} {h : gz_H} {Q : Option Value → gz_H → Prop} {x : Value} (hd : decode M.2.2.1 pc = .ok (.dup, 1)) (hc : x.category = 1) (k : gz_Ok G M B (pc + 1) lo (x :: x :: st) h Q) : gz_Ok G M B pc lo (x :: st) h Q := by
  intro p l e R s m args below meth c Z X H locs ls kc ks Y hl
  exact lv_dup X.1.1 X.1.2.1 hd ((gz_cat G x).trans hc) (k p l e R s m args below meth c Z X H locs ls kc ks Y hl)
theorem gz_pop {G : gz_G} {M : gz_M} {B : gz_B} {pc : Nat} {lo st : List Value} {h : gz_H} {Q : Option Value → gz_H → Prop} {x : Value} (hd : decode M.2.2.1 pc = .ok (.pop, 1)) (hc : x.category = 1) (k : gz_Ok G M B (pc + 1) lo (st) h Q) : gz_Ok G M B pc lo (x :: st) h Q := by
  intro p l e R s m args below meth c Z X H locs ls kc ks Y hl
  exact lv_pop X.1.1 X.1.2.1 hd ((gz_cat G x).trans hc) (k p l e R s m args below meth c Z X H locs ls kc ks Y hl)
theorem gz_dup_x1 {G : gz_G} {M : gz_M} {B : gz_B} {pc : Nat} {lo st : List Value} {h : gz_H} {Q : Option Value → gz_H → Prop} {x y : Value} (hd : decode M.2.2.1 pc = .ok (.dup_x1, 1)) (hc : x.category = 1) (hc2 : y.category = 1) (k : gz_Ok G M B (pc + 1) lo (x :: y :: x :: st) h Q) : gz_Ok G M B pc lo (x :: y :: st) h Q := by
  intro p l e R s m args below meth c Z X H locs ls kc ks Y hl
  exact lv_dup_x1 X.1.1 X.1.2.1 hd ((gz_cat G x).trans hc) ((gz_cat G y).trans hc2) (k p l e R s m args below meth c Z X H locs ls kc ks Y hl)
theorem gz_dup2 {G : gz_G} {M : gz_M} {B : gz_B} {pc : Nat} {lo st : List Value} {h : gz_H} {Q : Option Value → gz_H → Prop} {x y : Value} (hd : decode M.2.2.1 pc = .ok (.dup2, 1)) (hc : x.category = 1) (hc2 : y.category = 1) (k : gz_Ok G M B (pc + 1) lo (x :: y :: x :: y :: st) h Q) : gz_Ok G M B pc lo (x :: y :: st) h Q := by
  intro p l e R s m args below meth c Z X H locs ls kc ks Y hl
  exact lv_dup2_11 X.1.1 X.1.2.1 hd ((gz_cat G x).trans hc) ((gz_cat G y).trans hc2) (k p l e R s m args below meth c Z X H locs ls kc ks Y hl)
theorem gz_if_eq {G : gz_G} {M : gz_M} {B : gz_B} {pc : Nat} {lo st : List Value} {h : gz_H} {Q : Option Value → gz_H → Prop} {x : Int32} {off : Int} {tgt : Nat} (hd : decode M.2.2.1 pc = .ok (.ifCond .eq off, 3)) (ht : (pc : Int) + off = (tgt : Int)) (kt : x = 0 → gz_Ok G M B tgt lo st h Q) (kf : ¬ x = 0 → gz_Ok G M B (pc + 3) lo st h Q) : gz_Ok G M B pc lo (.int x :: st) h Q := by
  intro p l e R s m args below meth c Z X H locs ls kc ks Y hl
  exact lv_if_eq X.1.1 X.1.2.1 hd ht (fun z => kt z p l e R s m args below meth c Z X H locs ls kc ks Y hl) (fun z => kf z p l e R s m args below meth c Z X H locs ls kc ks Y hl)
theorem gz_icmp_eq {G : gz_G} {M : gz_M} {B : gz_B} {pc : Nat} {lo st : List Value} {h : gz_H} {Q : Option Value → gz_H → Prop} {x y : Int32} {off : Int} {tgt : Nat} (hd : decode M.2.2.1 pc = .ok (.if_icmp .eq off, 3)) (ht : (pc : Int) + off = (tgt : Int)) (kt : x = y → gz_Ok G M B tgt lo st h Q) (kf : ¬ x = y → gz_Ok G M B (pc + 3) lo st h Q) : gz_Ok G M B pc lo (.int y :: .int x :: st) h Q := by
  intro p l e R s m args below meth c Z X H locs ls kc ks Y hl
  exact lv_icmp_eq X.1.1 X.1.2.1 hd ht (fun z => kt z p l e R s m args below meth c Z X H locs ls kc ks Y hl) (fun z => kf z p l e R s m args below meth c Z X H locs ls kc ks Y hl)
theorem gz_if_ne {G : gz_G} {M : gz_M} {B : gz_B} {pc : Nat} {lo st : List Value} {h : gz_H} {Q : Option Value → gz_H → Prop} {x : Int32} {off : Int} {tgt : Nat} (hd : decode M.2.2.1 pc = .ok (.ifCond .ne off, 3)) (ht : (pc : Int) + off = (tgt : Int)) (kt : ¬ x = 0 → gz_Ok G M B tgt lo st h Q) (kf : x = 0 → gz_Ok G M B (pc + 3) lo st h Q) : gz_Ok G M B pc lo (.int x :: st) h Q := by
  intro p l e R s m args below meth c Z X H locs ls kc ks Y hl
  exact lv_if_ne X.1.1 X.1.2.1 hd ht (fun z => kt z p l e R s m args below meth c Z X H locs ls kc ks Y hl) (fun z => kf z p l e R s m args below meth c Z X H locs ls kc ks Y hl)
theorem gz_icmp_ne {G : gz_G} {M : gz_M} {B : gz_B} {pc : Nat} {lo st : List Value} {h : gz_H} {Q : Option Value → gz_H → Prop} {x y : Int32} {off : Int} {tgt : Nat} (hd : decode M.2.2.1 pc = .ok (.if_icmp .ne off, 3)) (ht : (pc : Int) + off = (tgt : Int)) (kt : ¬ x = y → gz_Ok G M B tgt lo st h Q) (kf : x = y → gz_Ok G M B (pc + 3) lo st h Q) : gz_Ok G M B pc lo (.int y :: .int x :: st) h Q := by
  intro p l e R s m args below meth c Z X H locs ls kc ks Y hl
  exact lv_icmp_ne X.1.1 X.1.2.1 hd ht (fun z => kt z p l e R s m args below meth c Z X H locs ls kc ks Y hl) (fun z => kf z p l e R s m args below meth c Z X H locs ls kc ks Y hl)
theorem gz_if_lt {G : gz_G} {M : gz_M} {B : gz_B} {pc : Nat} {lo st : List Value} {h : gz_H} {Q : Option Value → gz_H → Prop} {x : Int32} {off : Int} {tgt : Nat} (hd : decode M.2.2.1 pc = .ok (.ifCond .lt off, 3)) (ht : (pc : Int) + off = (tgt : Int)) (kt : x < 0 → gz_Ok G M B tgt lo st h Q) (kf : ¬ x < 0 → gz_Ok G M B (pc + 3) lo st h Q) : gz_Ok G M B pc lo (.int x :: st) h Q := by
  intro p l e R s m args below meth c Z X H locs ls kc ks Y hl
  exact lv_if_lt X.1.1 X.1.2.1 hd ht (fun z => kt z p l e R s m args below meth c Z X H locs ls kc ks Y hl) (fun z => kf z p l e R s m args below meth c Z X H locs ls kc ks Y hl)
theorem gz_icmp_lt {G : gz_G} {M : gz_M} {B : gz_B} {pc : Nat} {lo st : List Value} {h : gz_H} {Q : Option Value → gz_H → Prop} {x y : Int32} {off : Int} {tgt : Nat} (hd : decode M.2.2.1 pc = .ok (.if_icmp .lt off, 3)) (ht : (pc : Int) + off = (tgt : Int)) (kt : x < y → gz_Ok G M B tgt lo st h Q) (kf : ¬ x < y → gz_Ok G M B (pc + 3) lo st h Q) : gz_Ok G M B pc lo (.int y :: .int x :: st) h Q := by
  intro p l e R s m args below meth c Z X H locs ls kc ks Y hl
  exact lv_icmp_lt X.1.1 X.1.2.1 hd ht (fun z => kt z p l e R s m args below meth c Z X H locs ls kc ks Y hl) (fun z => kf z p l e R s m args below meth c Z X H locs ls kc ks Y hl)
theorem gz_if_ge {G : gz_G} {M : gz_M} {B : gz_B} {pc : Nat} {lo st : List Value} {h : gz_H} {Q : Option Value → gz_H → Prop} {x : Int32} {off : Int} {tgt : Nat} (hd : decode M.2.2.1 pc = .ok (.ifCond .ge off, 3)) (ht : (pc : Int) + off = (tgt : Int)) (kt : 0 ≤ x → gz_Ok G M B tgt lo st h Q) (kf : ¬ 0 ≤ x → gz_Ok G M B (pc + 3) lo st h Q) : gz_Ok G M B pc lo (.int x :: st) h Q := by
  intro p l e R s m args below meth c Z X H locs ls kc ks Y hl
  exact lv_if_ge X.1.1 X.1.2.1 hd ht (fun z => kt z p l e R s m args below meth c Z X H locs ls kc ks Y hl) (fun z => kf z p l e R s m args below meth c Z X H locs ls kc ks Y hl)
theorem gz_icmp_ge {G : gz_G} {M : gz_M} {B : gz_B} {pc : Nat} {lo st : List Value} {h : gz_H} {Q : Option Value → gz_H → Prop} {x y : Int32} {off : Int} {tgt : Nat} (hd : decode M.2.2.1 pc = .ok (.if_icmp .ge off, 3)) (ht : (pc : Int) + off = (tgt : Int)) (kt : y ≤ x → gz_Ok G M B tgt lo st h Q) (kf : ¬ y ≤ x → gz_Ok G M B (pc + 3) lo st h Q) : gz_Ok G M B pc lo (.int y :: .int x :: st) h Q := by
  intro p l e R s m args below meth c Z X H locs ls kc ks Y hl
  exact lv_icmp_ge X.1.1 X.1.2.1 hd ht (fun z => kt z p l e R s m args below meth c Z X H locs ls kc ks Y hl) (fun z => kf z p l e R s m args below meth c Z X H locs ls kc ks Y hl)
theorem gz_if_gt {G : gz_G} {M : gz_M} {B : gz_B} {pc : Nat} {lo st : List Value} {h : gz_H} {Q : Option Value → gz_H → Prop} {x : Int32} {off : Int} {tgt : Nat} (hd : decode M.2.2.1 pc = .ok (.ifCond .gt off, 3)) (ht : (pc : Int) + off = (tgt : Int)) (kt : 0 < x → gz_Ok G M B tgt lo st h Q) (kf : ¬ 0 < x → gz_Ok G M B (pc + 3) lo st h Q) : gz_Ok G M B pc lo (.int x :: st) h Q := by
  intro p l e R s m args below meth c Z X H locs ls kc ks Y hl
  exact lv_if_gt X.1.1 X.1.2.1 hd ht (fun z => kt z p l e R s m args below meth c Z X H locs ls kc ks Y hl) (fun z => kf z p l e R s m args below meth c Z X H locs ls kc ks Y hl)
theorem gz_icmp_gt {G : gz_G} {M : gz_M} {B : gz_B} {pc : Nat} {lo st : List Value} {h : gz_H} {Q : Option Value → gz_H → Prop} {x y : Int32} {off : Int} {tgt : Nat} (hd : decode M.2.2.1 pc = .ok (.if_icmp .gt off, 3)) (ht : (pc : Int) + off = (tgt : Int)) (kt : y < x → gz_Ok G M B tgt lo st h Q) (kf : ¬ y < x → gz_Ok G M B (pc + 3) lo st h Q) : gz_Ok G M B pc lo (.int y :: .int x :: st) h Q := by
  intro p l e R s m args below meth c Z X H locs ls kc ks Y hl
  exact lv_icmp_gt X.1.1 X.1.2.1 hd ht (fun z => kt z p l e R s m args below meth c Z X H locs ls kc ks Y hl) (fun z => kf z p l e R s m args below meth c Z X H locs ls kc ks Y hl)
theorem gz_if_le {G : gz_G} {M : gz_M} {B : gz_B} {pc : Nat} {lo st : List Value} {h : gz_H} {Q : Option Value → gz_H → Prop} {x : Int32} {off : Int} {tgt : Nat} (hd : decode M.2.2.1 pc = .ok (.ifCond .le off, 3)) (ht : (pc : Int) + off = (tgt : Int)) (kt : x ≤ 0 → gz_Ok G M B tgt lo st h Q) (kf : ¬ x ≤ 0 → gz_Ok G M B (pc + 3) lo st h Q) : gz_Ok G M B pc lo (.int x :: st) h Q := by
  intro p l e R s m args below meth c Z X H locs ls kc ks Y hl
  exact lv_if_le X.1.1 X.1.2.1 hd ht (fun z => kt z p l e R s m args below meth c Z X H locs ls kc ks Y hl) (fun z => kf z p l e R s m args below meth c Z X H locs ls kc ks Y hl)
theorem gz_icmp_le {G : gz_G} {M : gz_M} {B : gz_B} {pc : Nat} {lo st : List Value} {h : gz_H} {Q : Option Value → gz_H → Prop} {x y : Int32} {off : Int} {tgt : Nat} (hd : decode M.2.2.1 pc = .ok (.if_icmp .le off, 3)) (ht : (pc : Int) + off = (tgt : Int)) (kt : x ≤ y → gz_Ok G M B tgt lo st h Q) (kf : ¬ x ≤ y → gz_Ok G M B (pc + 3) lo st h Q) : gz_Ok G M B pc lo (.int y :: .int x :: st) h Q := by
  intro p l e R s m args below meth c Z X H locs ls kc ks Y hl
  exact lv_icmp_le X.1.1 X.1.2.1 hd ht (fun z => kt z p l e R s m args below meth c Z X H locs ls kc ks Y hl) (fun z => kf z p l e R s m args below meth c Z X H locs ls kc ks Y hl)
theorem gz_goto {G : gz_G} {M : gz_M} {B : gz_B} {pc : Nat} {lo st : List Value} {h : gz_H} {Q : Option Value → gz_H → Prop} {off : Int} {tgt : Nat} (hd : decode M.2.2.1 pc = .ok (.goto off, 3)) (ht : (pc : Int) + off = (tgt : Int)) (k : gz_Ok G M B tgt lo st h Q) : gz_Ok G M B pc lo st h Q := by
  intro p l e R s m args below meth c Z X H locs ls kc ks Y hl
  exact lv_goto X.1.1 X.1.2.1 hd ht (k p l e R s m args below meth c Z X H locs ls kc ks Y hl)

theorem gz_tIn {G : gz_G} {M : gz_M} {B : gz_B} {pc : Nat} {lo st : List Value} {h : gz_H} {Q : Option Value → gz_H → Prop} {dflt lw hg : Int} {offs : Array Int} {len : Nat} {x : Int32} {off : Int} {tgt : Nat} (hd : decode M.2.2.1 pc = .ok (.tableswitch dflt lw hg offs, len)) (h1 : ¬ x.toInt < lw) (h2 : ¬ hg < x.toInt) (ho : offs[(x.toInt - lw).toNat]? = some off) (ht : (pc : Int) + off = (tgt : Int)) (k : gz_Ok G M B tgt lo st h Q) : gz_Ok G M B pc lo (.int x :: st) h Q := by
  intro p l e R s m args below meth c Z X H locs ls kc ks Y hl
  exact lv_tableIn X.1.1 X.1.2.1 hd h1 h2 ho ht (k p l e R s m args below meth c Z X H locs ls kc ks Y hl)
theorem gz_tOut {G : gz_G} {M : gz_M} {B : gz_B} {pc : Nat} {lo st : List Value} {h : gz_H} {Q : Option Value → gz_H → Prop} {dflt lw hg : Int} {offs : Array Int} {len : Nat} {x : Int32} {tgt : Nat} (hd : decode M.2.2.1 pc = .ok (.tableswitch dflt lw hg offs, len)) (hx : x.toInt < lw ∨ hg < x.toInt) (ht : (pc : Int) + dflt = (tgt : Int)) (k : gz_Ok G M B tgt lo st h Q) : gz_Ok G M B pc lo (.int x :: st) h Q := by
  intro p l e R s m args below meth c Z X H locs ls kc ks Y hl
  exact lv_tableOut X.1.1 X.1.2.1 hd hx ht (k p l e R s m args below meth c Z X H locs ls kc ks Y hl)
/-- constants of the pool -/
theorem gz_ldcw {G : gz_G} {M : gz_M} {B : gz_B} {pc : Nat} {lo st : List Value} {h : gz_H} {Q : Option Value → gz_H → Prop} {idx : Nat} {v : Int32} (hd : decode M.2.2.1 pc = .ok (.ldc_w idx, 3)) (hc : Cond.constant M.1 idx v ∈ gz_TB) (k : gz_Ok G M B (pc + 3) lo (.int v :: st) h Q) : gz_Ok G M B pc lo st h Q := by
  intro p l e R s m args below meth c Z X H locs ls kc ks Y hl
  exact lv_ldcw X.1.1 X.1.2.1 X.1.2.2.2.1 (X.1.2.2.2.2 _ hc) hd (k p l e R s m args below meth c Z X H locs ls kc ks Y hl)
theorem gz_ldc2 {G : gz_G} {M : gz_M} {B : gz_B} {pc : Nat} {lo st : List Value} {h : gz_H} {Q : Option Value → gz_H → Prop} {idx : Nat} {v : Int64} (hd : decode M.2.2.1 pc = .ok (.ldc2_w idx, 3)) (hc : Cond.constantLong M.1 idx v ∈ gz_TB) (k : gz_Ok G M B (pc + 3) lo (.long v :: st) h Q) : gz_Ok G M B pc lo st h Q := by
  intro p l e R s m args below meth c Z X H locs ls kc ks Y hl
  exact lv_ldc2 X.1.1 X.1.2.1 X.1.2.2.2.1 (X.1.2.2.2.2 _ hc) hd (k p l e R s m args below meth c Z X H locs ls kc ks Y hl)
/-! stores to locals -/
def gz_k (w : Value) (i : Nat) : Value := match w, i with
  | .long _, 0 => .retAddr 0
  | .double _, 0 => .retAddr 0
  | w, _ => w
theorem gz_k_spec (w : Value) (i : Nat) : (gz_k w i = w ∧ ¬ (i = 0 ∧ w.category = 2)) ∨ gz_k w i = .retAddr 0 := by
  cases w <;> cases i <;> simp [gz_k, Value.category]
def gz_s1 : List Value → Nat → Value → List Value
  | [], _, _ => []
  | _ :: l, 0, v => v :: l
  | w :: l, i + 1, v => gz_k w i :: gz_s1 l i v
def gz_s2 : List Value → Nat → Value → List Value
  | [], _, _ => []
  | [_], 0, v => [v]
  | _ :: _ :: l, 0, v => v :: .retAddr 0 :: l
  | w :: l, i + 1, v => gz_k w i :: gz_s2 l i v
theorem gz_s1_at : ∀ (lo : List Value) (i : Nat) (v : Value) (j : Nat) (w : Value), (gz_s1 lo i v)[j]? = some w → gz_nu w → (j = i ∧ w = v) ∨ (j ≠ i ∧ lo[j]? = some w ∧ ¬ (j + 1 = i ∧ w.category = 2)) := by
  intro lo
  induction lo with
  | nil => intro i v j w h; simp [gz_s1] at h
  | cons u l ih =>
    intro i v j w h hn
    match i, j, h with
    | 0, 0, h => cases h; exact Or.inl ⟨rfl, rfl⟩
    | 0, j + 1, h => exact Or.inr ⟨by omega, h, by omega⟩
    | i + 1, 0, h =>
      have h' : gz_k u i = w := Option.some.inj h
      rcases gz_k_spec u i with ⟨e, hne⟩ | e
      · rw [e] at h'
        subst h'
        exact Or.inr ⟨by omega, rfl, fun q => hne ⟨by omega, q.2⟩⟩
      · rw [e] at h'
        exact absurd h'.symm (hn 0)
    | i + 1, j + 1, h =>
      rcases ih i v j w h hn with ⟨a, b⟩ | ⟨a, b, c⟩
      · exact Or.inl ⟨by omega, b⟩
      · exact Or.inr ⟨by omega, b, fun q => c ⟨by omega, q.2⟩⟩
theorem gz_s2_at : ∀ (lo : List Value) (i : Nat) (v : Value) (j : Nat) (w : Value), (gz_s2 lo i v)[j]? = some w → gz_nu w → (j = i ∧ w = v) ∨ (j ≠ i ∧ j ≠ i + 1 ∧ lo[j]? = some w ∧ ¬ (j + 1 = i ∧ w.category = 2)) := by
  intro lo
  induction lo with
  | nil => intro i v j w h; simp [gz_s2] at h
  | cons u l ih =>
    intro i v j w h hn
    match i, l, h, ih with
    | 0, [], h, _ =>
      match j, h with
      | 0, h => cases h; exact Or.inl ⟨rfl, rfl⟩
      | j + 1, h => simp [gz_s2] at h
    | 0, u2 :: l, h, _ =>
      match j, h with
      | 0, h => cases h; exact Or.inl ⟨rfl, rfl⟩
      | 1, h => cases h; exact absurd rfl (hn 0)
      | j + 2, h => exact Or.inr ⟨by omega, by omega, h, by omega⟩
    | i + 1, l, h, ih =>
      have e0 : gz_s2 (u :: l) (i + 1) v = gz_k u i :: gz_s2 l i v := by cases l <;> rfl
      rw [e0] at h
      match j, h with
      | 0, h =>
        have h' : gz_k u i = w := Option.some.inj h
        rcases gz_k_spec u i with ⟨e, hne⟩ | e
        · rw [e] at h'
          subst h'
          exact Or.inr ⟨by omega, by omega, rfl, fun q => hne ⟨by omega, q.2⟩⟩
        · rw [e] at h'
          exact absurd h'.symm (hn 0)
      | j + 1, h =>
        rcases ih i v j w h hn with ⟨a, b⟩ | ⟨a, a2, b, c⟩
        · exact Or.inl ⟨by omega, b⟩
        · exact Or.inr ⟨by omega, by omega, b, fun q => c ⟨by omega, q.2⟩⟩
def gz_isu : Value → Bool
  | .retAddr _ => true
  | _ => false
theorem gz_isu_nu {v : Value} (h : gz_nu v) : gz_isu v = false := by cases v <;> first | rfl | exact absurd rfl (h _)
def gz_prs (G : gz_G) (lo : List Value) : List (Nat × Value) := (List.range lo.length).filterMap (fun j => match lo[j]? with
  | some v => if gz_isu v = true then none else some (j, gz_v G v)
  | none => none)
theorem gz_prs_mem {G : gz_G} {lo : List Value} {j : Nat} {v : Value} (h : lo[j]? = some v) (hn : gz_nu v) : (j, gz_v G v) ∈ gz_prs G lo := by
  refine List.mem_filterMap.mpr ⟨j, List.mem_range.mpr (List.getElem?_eq_some_iff.mp h).1, ?_⟩
  rw [h]
  simp [gz_isu_nu hn]
theorem gz_prs_inv {G : gz_G} {lo : List Value} {q : Nat × Value} (h : q ∈ gz_prs G lo) : ∃ v, lo[q.1]? = some v ∧ gz_nu v ∧ q.2 = gz_v G v := by
  obtain ⟨j, -, hj⟩ := List.mem_filterMap.mp h
  split at hj
  · rename_i v e
    by_cases hu : gz_isu v = true
    · rw [if_pos hu] at hj; cases hj
    · rw [if_neg hu] at hj
      cases hj
      exact ⟨v, e, fun k hk => hu (by rw [hk]; rfl), rfl⟩
  · cases hj
theorem gz_lo.has {G : gz_G} {M : gz_M} {ls : Array Slot} {lo : List Value} (h : gz_lo G M ls lo) : lv_has ls M.2.2.2.1 (gz_prs G lo) := ⟨h.1, h.2.1, fun q hq => by
  obtain ⟨v, h1, h2, h3⟩ := gz_prs_inv hq
  rw [h3]
  exact h.2.2 _ _ h1 h2⟩
theorem gz_lo.s1 {G : gz_G} {M : gz_M} {ls : Array Slot} {lo lv : List Value} {i : Nat} {v : Value} (hlv : gz_s1 lo i v = lv) (h : lv_has ls M.2.2.2.1 ((i, gz_v G v) :: (gz_prs G lo).filter (fun q => !(q.1 == i) && !(q.1 + 1 == i && q.2.category == 2)))) : gz_lo G M ls lv := by
  refine ⟨h.1, h.2.1, fun j w hw hn => ?_⟩
  rw [← hlv] at hw
  rcases gz_s1_at lo i v j w hw hn with ⟨a, b⟩ | ⟨a, b, c⟩
  · subst a
    subst b
    exact h.2.2 _ List.mem_cons_self
  · refine h.2.2 (j, gz_v G w) (List.mem_cons_of_mem _ (List.mem_filter.mpr ⟨gz_prs_mem b hn, ?_⟩))
    simp only [gz_cat]
    simp [a]
    by_cases q : j + 1 = i
    · exact Or.inr (fun z => c ⟨q, z⟩)
    · exact Or.inl q
theorem gz_lo.s2 {G : gz_G} {M : gz_M} {ls : Array Slot} {lo lv : List Value} {i : Nat} {v : Value} (hlv : gz_s2 lo i v = lv) (h : lv_has ls M.2.2.2.1 ((i, gz_v G v) :: (gz_prs G lo).filter (fun q => !(q.1 == i) && (!(q.1 == i + 1) && !(q.1 + 1 == i && q.2.category == 2))))) : gz_lo G M ls lv := by
  refine ⟨h.1, h.2.1, fun j w hw hn => ?_⟩
  rw [← hlv] at hw
  rcases gz_s2_at lo i v j w hw hn with ⟨a, b⟩ | ⟨a, a2, b, c⟩
  · subst a
    subst b
    exact h.2.2 _ List.mem_cons_self
  · refine h.2.2 (j, gz_v G w) (List.mem_cons_of_mem _ (List.mem_filter.mpr ⟨gz_prs_mem b hn, ?_⟩))
    simp only [gz_cat]
    simp [a, a2]
    by_cases q : j + 1 = i
    · exact Or.inr (fun z => c ⟨q, z⟩)
    · exact Or.inl q

theorem gz_istore_n {G : gz_G} {M : gz_M} {B : gz_B} {pc : Nat} {lo st : List Value} {h : gz_H} {Q : Option Value → gz_H → Prop} {n : Fin 4} {i : Nat} {x : Int32} {lv : List Value} (hd : decode M.2.2.1 pc = .ok (.istore_n n, 1)) (hi : (n : Nat) = i) (hn : i < M.2.2.2.1) (hlv : gz_s1 lo i (.int x) = lv) (k : gz_Ok G M B (pc + 1) lv st h Q) : gz_Ok G M B pc lo (.int x :: st) h Q := by
  intro p l e R s m args below meth c Z X H locs ls kc ks Y hl
  exact lv_istore_n X.1.1 X.1.2.1 hd hi hl.has hn rfl (fun ls2 hl2 => k p l e R s m args below meth c Z X H locs ls2 kc ks Y (gz_lo.s1 hlv hl2))
theorem gz_istore {G : gz_G} {M : gz_M} {B : gz_B} {pc : Nat} {lo st : List Value} {h : gz_H} {Q : Option Value → gz_H → Prop} {i : Nat} {x : Int32} {lv : List Value} (hd : decode M.2.2.1 pc = .ok (.istore i, 2)) (hn : i < M.2.2.2.1) (hlv : gz_s1 lo i (.int x) = lv) (k : gz_Ok G M B (pc + 2) lv st h Q) : gz_Ok G M B pc lo (.int x :: st) h Q := by
  intro p l e R s m args below meth c Z X H locs ls kc ks Y hl
  exact lv_istore X.1.1 X.1.2.1 hd hl.has hn rfl (fun ls2 hl2 => k p l e R s m args below meth c Z X H locs ls2 kc ks Y (gz_lo.s1 hlv hl2))
theorem gz_lstore_n {G : gz_G} {M : gz_M} {B : gz_B} {pc : Nat} {lo st : List Value} {h : gz_H} {Q : Option Value → gz_H → Prop} {n : Fin 4} {i : Nat} {x : Int64} {lv : List Value} (hd : decode M.2.2.1 pc = .ok (.lstore_n n, 1)) (hi : (n : Nat) = i) (hn : i + 1 < M.2.2.2.1) (hlv : gz_s2 lo i (.long x) = lv) (k : gz_Ok G M B (pc + 1) lv st h Q) : gz_Ok G M B pc lo (.long x :: st) h Q := by
  intro p l e R s m args below meth c Z X H locs ls kc ks Y hl
  exact lv_lstore_n X.1.1 X.1.2.1 hd hi hl.has hn rfl (fun ls2 hl2 => k p l e R s m args below meth c Z X H locs ls2 kc ks Y (gz_lo.s2 hlv hl2))
theorem gz_lstore {G : gz_G} {M : gz_M} {B : gz_B} {pc : Nat} {lo st : List Value} {h : gz_H} {Q : Option Value → gz_H → Prop} {i : Nat} {x : Int64} {lv : List Value} (hd : decode M.2.2.1 pc = .ok (.lstore i, 2)) (hn : i + 1 < M.2.2.2.1) (hlv : gz_s2 lo i (.long x) = lv) (k : gz_Ok G M B (pc + 2) lv st h Q) : gz_Ok G M B pc lo (.long x :: st) h Q := by
  intro p l e R s m args below meth c Z X H locs ls kc ks Y hl
  exact lv_lstore X.1.1 X.1.2.1 hd hl.has hn rfl (fun ls2 hl2 => k p l e R s m args below meth c Z X H locs ls2 kc ks Y (gz_lo.s2 hlv hl2))
theorem gz_astore_n {G : gz_G} {M : gz_M} {B : gz_B} {pc : Nat} {lo st : List Value} {h : gz_H} {Q : Option Value → gz_H → Prop} {n : Fin 4} {i : Nat} {x : Nat} {lv : List Value} (hd : decode M.2.2.1 pc = .ok (.astore_n n, 1)) (hi : (n : Nat) = i) (hn : i < M.2.2.2.1) (hlv : gz_s1 lo i (.ref x) = lv) (k : gz_Ok G M B (pc + 1) lv st h Q) : gz_Ok G M B pc lo (.ref x :: st) h Q := by
  intro p l e R s m args below meth c Z X H locs ls kc ks Y hl
  exact lv_astore_n X.1.1 X.1.2.1 hd hi hl.has hn rfl (fun ls2 hl2 => k p l e R s m args below meth c Z X H locs ls2 kc ks Y (gz_lo.s1 hlv hl2))
theorem gz_astore {G : gz_G} {M : gz_M} {B : gz_B} {pc : Nat} {lo st : List Value} {h : gz_H} {Q : Option Value → gz_H → Prop} {i : Nat} {x : Nat} {lv : List Value} (hd : decode M.2.2.1 pc = .ok (.astore i, 2)) (hn : i < M.2.2.2.1) (hlv : gz_s1 lo i (.ref x) = lv) (k : gz_Ok G M B (pc + 2) lv st h Q) : gz_Ok G M B pc lo (.ref x :: st) h Q := by
  intro p l e R s m args below meth c Z X H locs ls kc ks Y hl
  exact lv_astore X.1.1 X.1.2.1 hd hl.has hn rfl (fun ls2 hl2 => k p l e R s m args below meth c Z X H locs ls2 kc ks Y (gz_lo.s1 hlv hl2))
theorem gz_iinc {G : gz_G} {M : gz_M} {B : gz_B} {pc : Nat} {lo st : List Value} {h : gz_H} {Q : Option Value → gz_H → Prop} {i : Nat} {n : Int} {x v : Int32} {lv : List Value} (hd : decode M.2.2.1 pc = .ok (.iinc i n, 3)) (hx : lo[i]? = some (.int x)) (hv : x + Int32.ofInt n = v) (hn : i < M.2.2.2.1) (hlv : gz_s1 lo i (.int v) = lv) (k : gz_Ok G M B (pc + 3) lv st h Q) : gz_Ok G M B pc lo st h Q := by
  intro p l e R s m args below meth c Z X H locs ls kc ks Y hl
  obtain ⟨q, hq⟩ := List.getElem?_of_mem (gz_prs_mem (G := G) hx (fun _ q => by cases q))
  exact lv_iinc X.1.1 X.1.2.1 hd hl.has hq hv hn rfl (fun ls2 hl2 => k p l e R s m args below meth c Z X H locs ls2 kc ks Y (gz_lo.s1 hlv hl2))
/-- fewer locals -/
def gz_sub : List Value → List Value → Prop
  | [], _ => True
  | v :: l', w :: l => (gz_isu v = true ∨ v = w) ∧ gz_sub l' l
  | _ :: _, [] => False
theorem gz_sub_at : ∀ (l' l : List Value), gz_sub l' l → ∀ (j : Nat) (v : Value), l'[j]? = some v → gz_nu v → l[j]? = some v := by
  intro l'
  induction l' with
  | nil => intro l _ j v h; simp at h
  | cons u l' ih =>
    intro l hs j v h hn
    match l, hs with
    | w :: l, hs =>
      match j, h with
      | 0, h =>
        cases h
        rcases hs.1 with q | q
        · rw [gz_isu_nu hn] at q; cases q
        · rw [q]; rfl
      | j + 1, h => exact ih l hs.2 j v h hn
theorem gz_fg {G : gz_G} {M : gz_M} {B : gz_B} {pc : Nat} {lo st : List Value} {h : gz_H} {Q : Option Value → gz_H → Prop} {lv : List Value} (hs : gz_sub lv lo) (k : gz_Ok G M B pc lv st h Q) : gz_Ok G M B pc lo st h Q := by
  intro p l e R s m args below meth c Z X H locs ls kc ks Y hl
  exact k p l e R s m args below meth c Z X H locs ls kc ks Y ⟨hl.1, hl.2.1, fun j v hv hn => hl.2.2 j v (gz_sub_at _ _ hs j v hv hn) hn⟩
theorem gz_nmI {G : gz_G} {M : gz_M} {B : gz_B} {pc : Nat} {lo st : List Value} {h : gz_H} {Q : Option Value → gz_H → Prop} {x : Int32} (k : ∀ y : Int32, y = x → gz_Ok G M B pc lo (.int y :: st) h Q) : gz_Ok G M B pc lo (.int x :: st) h Q := k x rfl
theorem gz_nmL {G : gz_G} {M : gz_M} {B : gz_B} {pc : Nat} {lo st : List Value} {h : gz_H} {Q : Option Value → gz_H → Prop} {x : Int64} (k : ∀ y : Int64, y = x → gz_Ok G M B pc lo (.long y :: st) h Q) : gz_Ok G M B pc lo (.long x :: st) h Q := k x rfl
theorem gz_nmH {G : gz_G} {M : gz_M} {B : gz_B} {pc : Nat} {lo st : List Value} {h : gz_H} {Q : Option Value → gz_H → Prop} (k : ∀ y : gz_H, y = h → gz_Ok G M B pc lo st y Q) : gz_Ok G M B pc lo st h Q := k h rfl
/-! answers -/
def gz_qi (Q : Int32 → gz_H → Prop) : Option Value → gz_H → Prop := fun v h => ∃ r : Int32, v = some (.int r) ∧ Q r h
def gz_ql (Q : Int64 → gz_H → Prop) : Option Value → gz_H → Prop := fun v h => ∃ r : Int64, v = some (.long r) ∧ Q r h
def gz_qv (Q : gz_H → Prop) : Option Value → gz_H → Prop := fun v h => v = none ∧ Q h
theorem gz_ex0 {G : gz_G} {d l0 s0 kc ks : Nat} {h : gz_H} {s : State} {H : Heap} {locs : List Loc} (Y : gz_Y G (d, l0, s0, 0, 0) h s H locs kc ks) : l0 + 0 ≤ h.1.length ∧ s0 + 0 ≤ gz_ss h.1 := by
  obtain ⟨-, -, y3, y4, -, -⟩ := Y
  simp only at y3 y4
  exact ⟨by omega, by omega⟩
theorem gz_iret {G : gz_G} {M : gz_M} {d l0 s0 : Nat} {pc : Nat} {lo st : List Value} {h : gz_H} {Q : Option Value → gz_H → Prop} {x : Int32} {ty : FieldType} {Qi : Int32 → gz_H → Prop} (hd : decode M.2.2.1 pc = .ok (.ireturn, 1)) (hr : M.2.2.2.2 = some ty) (hn : narrow ty (.int x) = .int x) (hq : Qi x h) : gz_Ok G M (d, l0, s0, 0, 0) pc lo [.int x] h (gz_qi Qi) := by
  intro p l e R s m args below meth c Z X H locs ls kc ks Y hl
  exact X.2.2.2.2 (some (.int x)) h H locs ls kc ks pc ⟨x, rfl, hq⟩ Y (gz_ex0 Y).1 (gz_ex0 Y).2 ⟨hd, ty, hr, hn⟩
theorem gz_lret {G : gz_G} {M : gz_M} {d l0 s0 : Nat} {pc : Nat} {lo st : List Value} {h : gz_H} {Q : Option Value → gz_H → Prop} {x : Int64} {Qi : Int64 → gz_H → Prop} (hd : decode M.2.2.1 pc = .ok (.lreturn, 1)) (hr : M.2.2.2.2 = some .long) (hq : Qi x h) : gz_Ok G M (d, l0, s0, 0, 0) pc lo [.long x] h (gz_ql Qi) := by
  intro p l e R s m args below meth c Z X H locs ls kc ks Y hl
  exact X.2.2.2.2 (some (.long x)) h H locs ls kc ks pc ⟨x, rfl, hq⟩ Y (gz_ex0 Y).1 (gz_ex0 Y).2 ⟨hd, hr⟩
theorem gz_vret {G : gz_G} {M : gz_M} {d l0 s0 : Nat} {pc : Nat} {lo st : List Value} {h : gz_H} {Q : Option Value → gz_H → Prop} {Qi : gz_H → Prop} (hd : decode M.2.2.1 pc = .ok (.return_, 1)) (hr : M.2.2.2.2 = none) (hq : Qi h) : gz_Ok G M (d, l0, s0, 0, 0) pc lo [] h (gz_qv Qi) := by
  intro p l e R s m args below meth c Z X H locs ls kc ks Y hl
  exact X.2.2.2.2 none h H locs ls kc ks pc ⟨rfl, hq⟩ Y (gz_ex0 Y).1 (gz_ex0 Y).2 ⟨hd, hr⟩
theorem gz_vretA {G : gz_G} {M : gz_M} {d l0 s0 mc ms : Nat} {pc : Nat} {lo st : List Value} {h : gz_H} {Q : Option Value → gz_H → Prop} {Qi : gz_H → Prop} (hd : decode M.2.2.1 pc = .ok (.return_, 1)) (hr : M.2.2.2.2 = none) (h1 : l0 + mc = h.1.length) (h2 : s0 + ms = gz_ss h.1) (hq : Qi h) : gz_Ok G M (d, l0, s0, mc, ms) pc lo [] h (gz_qv Qi) := by
  intro p l e R s m args below meth c Z X H locs ls kc ks Y hl
  exact X.2.2.2.2 none h H locs ls kc ks pc ⟨rfl, hq⟩ Y (Nat.le_of_eq h1) (Nat.le_of_eq h2) ⟨hd, hr⟩
