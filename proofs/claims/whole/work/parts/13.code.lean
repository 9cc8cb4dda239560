theorem dX1_holdersOf_0 : decode cX1_holdersOf 0 = .ok (.iconst 0, 1) := by decide +kernel
theorem dX1_holdersOf_1 : decode cX1_holdersOf 1 = .ok (.istore_n 2, 1) := by decide +kernel
theorem dX1_holdersOf_2 : decode cX1_holdersOf 2 = .ok (.iconst 0, 1) := by decide +kernel
theorem dX1_holdersOf_3 : decode cX1_holdersOf 3 = .ok (.istore_n 3, 1) := by decide +kernel
theorem dX1_holdersOf_4 : decode cX1_holdersOf 4 = .ok (.iload_n 3, 1) := by decide +kernel
theorem dX1_holdersOf_5 : decode cX1_holdersOf 5 = .ok (.aload_n 0, 1) := by decide +kernel
theorem dX1_holdersOf_6 : decode cX1_holdersOf 6 = .ok (.getfield 32, 3) := by decide +kernel
theorem dX1_holdersOf_9 : decode cX1_holdersOf 9 = .ok (.if_icmp .ge 28, 3) := by decide +kernel
theorem dX1_holdersOf_12 : decode cX1_holdersOf 12 = .ok (.aload_n 0, 1) := by decide +kernel
theorem dX1_holdersOf_13 : decode cX1_holdersOf 13 = .ok (.getfield 17, 3) := by decide +kernel
theorem dX1_holdersOf_16 : decode cX1_holdersOf 16 = .ok (.iload_n 3, 1) := by decide +kernel
theorem dX1_holdersOf_17 : decode cX1_holdersOf 17 = .ok (.aaload, 1) := by decide +kernel
theorem dX1_holdersOf_18 : decode cX1_holdersOf 18 = .ok (.iload_n 1, 1) := by decide +kernel
theorem dX1_holdersOf_19 : decode cX1_holdersOf 19 = .ok (.invokevirtual 99, 3) := by decide +kernel
theorem dX1_holdersOf_22 : decode cX1_holdersOf 22 = .ok (.ifCond .eq 9, 3) := by decide +kernel
theorem dX1_holdersOf_25 : decode cX1_holdersOf 25 = .ok (.iload_n 2, 1) := by decide +kernel
theorem dX1_holdersOf_26 : decode cX1_holdersOf 26 = .ok (.iconst 1, 1) := by decide +kernel
theorem dX1_holdersOf_27 : decode cX1_holdersOf 27 = .ok (.iload_n 3, 1) := by decide +kernel
theorem dX1_holdersOf_28 : decode cX1_holdersOf 28 = .ok (.ishl, 1) := by decide +kernel
theorem dX1_holdersOf_29 : decode cX1_holdersOf 29 = .ok (.ior, 1) := by decide +kernel
theorem dX1_holdersOf_30 : decode cX1_holdersOf 30 = .ok (.istore_n 2, 1) := by decide +kernel
theorem dX1_holdersOf_31 : decode cX1_holdersOf 31 = .ok (.iinc 3 1, 3) := by decide +kernel
theorem dX1_holdersOf_34 : decode cX1_holdersOf 34 = .ok (.goto (-30), 3) := by decide +kernel
theorem dX1_holdersOf_37 : decode cX1_holdersOf 37 = .ok (.iload_n 2, 1) := by decide +kernel
theorem dX1_holdersOf_38 : decode cX1_holdersOf 38 = .ok (.ireturn, 1) := by decide +kernel
def fX1_holdersOf_31 (k4 : Nat → Int32 → Int32 → Int32 → gz_H → Option (Int32 × gz_H)) (a0 : Nat) (x1 : Int32) (x2 : Int32) (x3 : Int32) (h : gz_H) : Option (Int32 × gz_H) :=
    k4 a0 x1 x2 (x3 + 1) h
set_option maxRecDepth 100000 in
set_option maxHeartbeats 1000000 in
theorem sX1_holdersOf_31 {G : gz_G} {d l0 s0 : Nat} {Q : Int32 → gz_H → Prop} {k4 : Nat → Int32 → Int32 → Int32 → gz_H → Option (Int32 × gz_H)} (hk4 : ∀ (a0 : Nat) (x1 : Int32) (x2 : Int32) (x3 : Int32) (h : gz_H), gz_g (k4 a0 x1 x2 x3 h) Q → gz_Ok G mX1_holdersOf (d + 2, l0, s0, 0, 0) 4 [.ref a0, .int x1, .int x2, .int x3] [] h (gz_qi Q)) (a0 : Nat) (x1 : Int32) (x2 : Int32) (x3 : Int32) (h : gz_H) (hf : gz_g (fX1_holdersOf_31 k4 a0 x1 x2 x3 h) Q) : gz_Ok G mX1_holdersOf (d + 2, l0, s0, 0, 0) 31 [.ref a0, .int x1, .int x2, .int x3] [] h (gz_qi Q) := by
  unfold fX1_holdersOf_31 at hf
  refine gz_iinc (v := x3 + 1) (lv := [.ref a0, .int x1, .int x2, .int (x3 + 1)]) (pc := 31) dX1_holdersOf_31 rfl rfl (by decide) rfl ?_
  refine gz_goto (tgt := 4) (pc := 34) dX1_holdersOf_34 rfl ?_
  exact hk4 a0 x1 x2 (x3 + 1) h hf
def fX1_holdersOf_4  : Nat → Nat → Int32 → Int32 → Int32 → gz_H → Option (Int32 × gz_H)
  | 0, _, _, _, _, _ => none
  | n + 1, a0, x1, x2, x3, h =>
    gz_ck (gz_sh h a0 1 4) <|
    if (h.2.1 a0 3) ≤ x3 then (
     some (x2, h)
    ) else (
     gz_br (h.2.2.2 a0 1) fun r_3 =>
     gz_ck (gz_inb h r_3 11 x3) <|
     gz_br (h.2.2.2 r_3 x3.toNatClampNeg) fun r_5 =>
     gz_ck (gz_sh h r_5 2 6) <|
     gz_b2 (fX2_hasFact r_5 x1 h) fun y_7 h_6 =>
     if y_7 = 0 then (
      fX1_holdersOf_31 (fun z0 z1 z2 z3 zh => fX1_holdersOf_4 n z0 z1 z2 z3 zh) a0 x1 x2 x3 h_6
     ) else (
      fX1_holdersOf_31 (fun z0 z1 z2 z3 zh => fX1_holdersOf_4 n z0 z1 z2 z3 zh) a0 x1 (x2 ||| ((1 : Int32) <<< (x3 &&& 31))) x3 h_6
     )
    )
set_option maxRecDepth 100000 in
set_option maxHeartbeats 1000000 in
theorem sX1_holdersOf_4 {G : gz_G} {d l0 s0 : Nat} {Q : Int32 → gz_H → Prop} : ∀ (n : Nat) (a0 : Nat) (x1 : Int32) (x2 : Int32) (x3 : Int32) (h : gz_H), gz_g (fX1_holdersOf_4  n a0 x1 x2 x3 h) Q → gz_Ok G mX1_holdersOf (d + 2, l0, s0, 0, 0) 4 [.ref a0, .int x1, .int x2, .int x3] [] h (gz_qi Q) := by
  intro n
  induction n with
  | zero => intro a0 x1 x2 x3 h hf; exact False.elim hf
  | succ n ih =>
    intro a0 x1 x2 x3 h hf
    rw [fX1_holdersOf_4] at hf
    refine gz_iload_n (pc := 4) dX1_holdersOf_4 rfl rfl ?_
    refine gz_aload_n (pc := 5) dX1_holdersOf_5 rfl rfl ?_
    refine gz_gk hf (fun c_1 hf => ?_)
    refine gz_getI (pc := 6) dX1_holdersOf_6 fl_RX1_32 rfl (gz_shs c_1) ?_
    refine gz_icmp_ge (tgt := 37) (pc := 9) dX1_holdersOf_9 rfl (fun c_2 => ?_) (fun c_2 => ?_)
    · have hf := gz_gT hf c_2
      refine gz_iload_n (pc := 37) dX1_holdersOf_37 rfl rfl ?_
      exact gz_irt (pc := 38) dX1_holdersOf_38 rfl rfl hf
    · have hf := gz_gF hf c_2
      refine gz_aload_n (pc := 12) dX1_holdersOf_12 rfl rfl ?_
      refine gz_gb hf (fun r_3 er_3 hf => ?_)
      refine gz_getR (pc := 13) dX1_holdersOf_13 fl_RX1_17 rfl (gz_shs c_1) er_3 ?_
      refine gz_iload_n (pc := 16) dX1_holdersOf_16 rfl rfl ?_
      refine gz_gk hf (fun c_4 hf => ?_)
      refine gz_gb hf (fun r_5 er_5 hf => ?_)
      refine gz_aald (Or.inl rfl) (pc := 17) dX1_holdersOf_17 c_4 er_5 ?_
      refine gz_iload_n (pc := 18) dX1_holdersOf_18 rfl rfl ?_
      refine gz_gk hf (fun c_8 hf => ?_)
      refine gz_cVI (av := [.int x1]) (st := []) (pc := 19) dX1_holdersOf_19 kl_RX1_99 rfl (gz_shs c_8) rfl rfl (Nat.le_of_ble_eq_true rfl) (by show d + 0 + 1 + 1 ≤ d + 2; omega) (sX2_hasFact (d := d + 0) (gz_gc hf)) (fun y_7 h_6 hf => ?_)
      refine gz_if_eq (tgt := 31) (pc := 22) dX1_holdersOf_22 rfl (fun c_9 => ?_) (fun c_9 => ?_)
      · have hf := gz_gT hf c_9
        exact sX1_holdersOf_31 ih a0 x1 x2 x3 h_6 hf
      · have hf := gz_gF hf c_9
        refine gz_iload_n (pc := 25) dX1_holdersOf_25 rfl rfl ?_
        refine gz_iconst (v := (1 : Int32)) (pc := 26) dX1_holdersOf_26 rfl ?_
        refine gz_iload_n (pc := 27) dX1_holdersOf_27 rfl rfl ?_
        refine gz_ishl (pc := 28) dX1_holdersOf_28 ?_
        refine gz_ior (pc := 29) dX1_holdersOf_29 ?_
        refine gz_istore_n (lv := [.ref a0, .int x1, .int (x2 ||| ((1 : Int32) <<< (x3 &&& 31))), .int x3]) (pc := 30) dX1_holdersOf_30 rfl (by decide) rfl ?_
        exact sX1_holdersOf_31 ih a0 x1 (x2 ||| ((1 : Int32) <<< (x3 &&& 31))) x3 h_6 hf
def fX1_holdersOf_0  (a0 : Nat) (x1 : Int32) (h : gz_H) : Option (Int32 × gz_H) :=
    fX1_holdersOf_4 gz_fu a0 x1 (0 : Int32) (0 : Int32) h
set_option maxRecDepth 100000 in
set_option maxHeartbeats 1000000 in
theorem sX1_holdersOf_0 {G : gz_G} {d l0 s0 : Nat} {Q : Int32 → gz_H → Prop} (a0 : Nat) (x1 : Int32) (h : gz_H) (hf : gz_g (fX1_holdersOf_0  a0 x1 h) Q) : gz_Ok G mX1_holdersOf (d + 2, l0, s0, 0, 0) 0 [.ref a0, .int x1, .retAddr 0, .retAddr 0] [] h (gz_qi Q) := by
  unfold fX1_holdersOf_0 at hf
  refine gz_iconst (v := (0 : Int32)) (pc := 0) dX1_holdersOf_0 rfl ?_
  refine gz_istore_n (lv := [.ref a0, .int x1, .int (0 : Int32), .retAddr 0]) (pc := 1) dX1_holdersOf_1 rfl (by decide) rfl ?_
  refine gz_iconst (v := (0 : Int32)) (pc := 2) dX1_holdersOf_2 rfl ?_
  refine gz_istore_n (lv := [.ref a0, .int x1, .int (0 : Int32), .int (0 : Int32)]) (pc := 3) dX1_holdersOf_3 rfl (by decide) rfl ?_
  exact sX1_holdersOf_4 gz_fu a0 x1 (0 : Int32) (0 : Int32) h hf
def fX1_holdersOf (a0 : Nat) (x1 : Int32) (h : gz_H) : Option (Int32 × gz_H) := fX1_holdersOf_0 a0 x1 h
theorem sX1_holdersOf {G : gz_G} {d : Nat} {a0 : Nat} {x1 : Int32} {h : gz_H} {Q : Int32 → gz_H → Prop} (hf : gz_g (fX1_holdersOf a0 x1 h) Q) : gz_Cl G mX1_holdersOf (d + 2) 0 0 [.ref a0, .int x1] h (gz_qi Q) := gz_cl_of (lo := [.ref a0, .int x1, .retAddr 0, .retAddr 0]) (by decide) rfl rfl (Nat.le_of_ble_eq_true rfl) (sX1_holdersOf_0 a0 x1 h hf)
theorem dX2_isCalledBy_0 : decode cX2_isCalledBy 0 = .ok (.iload_n 2, 1) := by decide +kernel
theorem dX2_isCalledBy_1 : decode cX2_isCalledBy 1 = .ok (.iload_n 1, 1) := by decide +kernel
theorem dX2_isCalledBy_2 : decode cX2_isCalledBy 2 = .ok (.if_icmp .eq 18, 3) := by decide +kernel
theorem dX2_isCalledBy_5 : decode cX2_isCalledBy 5 = .ok (.iload_n 0, 1) := by decide +kernel
theorem dX2_isCalledBy_6 : decode cX2_isCalledBy 6 = .ok (.iconst 2, 1) := by decide +kernel
theorem dX2_isCalledBy_7 : decode cX2_isCalledBy 7 = .ok (.if_icmp .ne 17, 3) := by decide +kernel
theorem dX2_isCalledBy_10 : decode cX2_isCalledBy 10 = .ok (.iload_n 2, 1) := by decide +kernel
theorem dX2_isCalledBy_11 : decode cX2_isCalledBy 11 = .ok (.iload_n 1, 1) := by decide +kernel
theorem dX2_isCalledBy_12 : decode cX2_isCalledBy 12 = .ok (.iconst 1, 1) := by decide +kernel
theorem dX2_isCalledBy_13 : decode cX2_isCalledBy 13 = .ok (.iadd, 1) := by decide +kernel
theorem dX2_isCalledBy_14 : decode cX2_isCalledBy 14 = .ok (.bipush 6, 2) := by decide +kernel
theorem dX2_isCalledBy_16 : decode cX2_isCalledBy 16 = .ok (.irem, 1) := by decide +kernel
theorem dX2_isCalledBy_17 : decode cX2_isCalledBy 17 = .ok (.if_icmp .ne 7, 3) := by decide +kernel
theorem dX2_isCalledBy_20 : decode cX2_isCalledBy 20 = .ok (.iconst 1, 1) := by decide +kernel
theorem dX2_isCalledBy_21 : decode cX2_isCalledBy 21 = .ok (.goto 4, 3) := by decide +kernel
theorem dX2_isCalledBy_24 : decode cX2_isCalledBy 24 = .ok (.iconst 0, 1) := by decide +kernel
theorem dX2_isCalledBy_25 : decode cX2_isCalledBy 25 = .ok (.ireturn, 1) := by decide +kernel
def fX2_isCalledBy_20   (h : gz_H) : Option (Int32 × gz_H) :=
    some ((1 : Int32), h)
set_option maxRecDepth 100000 in
set_option maxHeartbeats 1000000 in
theorem sX2_isCalledBy_20 {G : gz_G} {d l0 s0 : Nat} {Q : Int32 → gz_H → Prop}  (h : gz_H) (hf : gz_g (fX2_isCalledBy_20   h) Q) : gz_Ok G mX2_isCalledBy (d + 0, l0, s0, 0, 0) 20 [.retAddr 0, .retAddr 0, .retAddr 0] [] h (gz_qi Q) := by
  unfold fX2_isCalledBy_20 at hf
  refine gz_iconst (v := (1 : Int32)) (pc := 20) dX2_isCalledBy_20 rfl ?_
  refine gz_goto (tgt := 25) (pc := 21) dX2_isCalledBy_21 rfl ?_
  exact gz_irt (pc := 25) dX2_isCalledBy_25 rfl rfl hf
def fX2_isCalledBy_0  (x0 : Int32) (x1 : Int32) (x2 : Int32) (h : gz_H) : Option (Int32 × gz_H) :=
    if x2 = x1 then (
     fX2_isCalledBy_20 h
    ) else (
     if x0 = (2 : Int32) then (
      if x2 = ((x1 + (1 : Int32)) - (x1 + (1 : Int32)) / (6 : Int32) * (6 : Int32)) then (
       fX2_isCalledBy_20 h
      ) else (
       some ((0 : Int32), h)
      )
     ) else (
      some ((0 : Int32), h)
     )
    )
set_option maxRecDepth 100000 in
set_option maxHeartbeats 1000000 in
theorem sX2_isCalledBy_0 {G : gz_G} {d l0 s0 : Nat} {Q : Int32 → gz_H → Prop} (x0 : Int32) (x1 : Int32) (x2 : Int32) (h : gz_H) (hf : gz_g (fX2_isCalledBy_0  x0 x1 x2 h) Q) : gz_Ok G mX2_isCalledBy (d + 0, l0, s0, 0, 0) 0 [.int x0, .int x1, .int x2] [] h (gz_qi Q) := by
  unfold fX2_isCalledBy_0 at hf
  refine gz_iload_n (pc := 0) dX2_isCalledBy_0 rfl rfl ?_
  refine gz_iload_n (pc := 1) dX2_isCalledBy_1 rfl rfl ?_
  refine gz_icmp_eq (tgt := 20) (pc := 2) dX2_isCalledBy_2 rfl (fun c_1 => ?_) (fun c_1 => ?_)
  · have hf := gz_gT hf c_1
    refine gz_fg (lv := [.retAddr 0, .retAddr 0, .retAddr 0]) ⟨Or.inl rfl, ⟨Or.inl rfl, ⟨Or.inl rfl, trivial⟩⟩⟩ ?_
    exact sX2_isCalledBy_20 h hf
  · have hf := gz_gF hf c_1
    refine gz_iload_n (pc := 5) dX2_isCalledBy_5 rfl rfl ?_
    refine gz_iconst (v := (2 : Int32)) (pc := 6) dX2_isCalledBy_6 rfl ?_
    refine gz_icmp_ne (tgt := 24) (pc := 7) dX2_isCalledBy_7 rfl (fun c_2 => ?_) (fun c_2 => ?_)
    · have hf := gz_gF hf c_2
      refine gz_iconst (v := (0 : Int32)) (pc := 24) dX2_isCalledBy_24 rfl ?_
      exact gz_irt (pc := 25) dX2_isCalledBy_25 rfl rfl hf
    · have hf := gz_gT hf c_2
      refine gz_iload_n (pc := 10) dX2_isCalledBy_10 rfl rfl ?_
      refine gz_iload_n (pc := 11) dX2_isCalledBy_11 rfl rfl ?_
      refine gz_iconst (v := (1 : Int32)) (pc := 12) dX2_isCalledBy_12 rfl ?_
      refine gz_iadd (pc := 13) dX2_isCalledBy_13 ?_
      refine gz_bipush (v := (6 : Int32)) (pc := 14) dX2_isCalledBy_14 rfl ?_
      refine gz_irem (pc := 16) dX2_isCalledBy_16 (by decide) ?_
      refine gz_icmp_ne (tgt := 24) (pc := 17) dX2_isCalledBy_17 rfl (fun c_3 => ?_) (fun c_3 => ?_)
      · have hf := gz_gF hf c_3
        refine gz_iconst (v := (0 : Int32)) (pc := 24) dX2_isCalledBy_24 rfl ?_
        exact gz_irt (pc := 25) dX2_isCalledBy_25 rfl rfl hf
      · have hf := gz_gT hf c_3
        refine gz_fg (lv := [.retAddr 0, .retAddr 0, .retAddr 0]) ⟨Or.inl rfl, ⟨Or.inl rfl, ⟨Or.inl rfl, trivial⟩⟩⟩ ?_
        exact sX2_isCalledBy_20 h hf
def fX2_isCalledBy (x0 : Int32) (x1 : Int32) (x2 : Int32) (h : gz_H) : Option (Int32 × gz_H) := fX2_isCalledBy_0 x0 x1 x2 h
theorem sX2_isCalledBy {G : gz_G} {d : Nat} {x0 : Int32} {x1 : Int32} {x2 : Int32} {h : gz_H} {Q : Int32 → gz_H → Prop} (hf : gz_g (fX2_isCalledBy x0 x1 x2 h) Q) : gz_Cl G mX2_isCalledBy (d + 0) 0 0 [.int x0, .int x1, .int x2] h (gz_qi Q) := gz_cl_of (lo := [.int x0, .int x1, .int x2]) (by decide) rfl rfl (Nat.le_of_ble_eq_true rfl) (sX2_isCalledBy_0 x0 x1 x2 h hf)
theorem dX2_toldAs_0 : decode cX2_toldAs 0 = .ok (.iload_n 1, 1) := by decide +kernel
theorem dX2_toldAs_1 : decode cX2_toldAs 1 = .ok (.iconst 3, 1) := by decide +kernel
theorem dX2_toldAs_2 : decode cX2_toldAs 2 = .ok (.invokestatic 64, 3) := by decide +kernel
theorem dX2_toldAs_5 : decode cX2_toldAs 5 = .ok (.ifCond .eq 12, 3) := by decide +kernel
theorem dX2_toldAs_8 : decode cX2_toldAs 8 = .ok (.aload_n 0, 1) := by decide +kernel
theorem dX2_toldAs_9 : decode cX2_toldAs 9 = .ok (.invokevirtual 60, 3) := by decide +kernel
theorem dX2_toldAs_12 : decode cX2_toldAs 12 = .ok (.ifCond .eq 5, 3) := by decide +kernel
theorem dX2_toldAs_15 : decode cX2_toldAs 15 = .ok (.iconst 0, 1) := by decide +kernel
theorem dX2_toldAs_16 : decode cX2_toldAs 16 = .ok (.ireturn, 1) := by decide +kernel
theorem dX2_toldAs_17 : decode cX2_toldAs 17 = .ok (.iload_n 1, 1) := by decide +kernel
theorem dX2_toldAs_18 : decode cX2_toldAs 18 = .ok (.iconst 5, 1) := by decide +kernel
theorem dX2_toldAs_19 : decode cX2_toldAs 19 = .ok (.if_icmp .ne 9, 3) := by decide +kernel
theorem dX2_toldAs_22 : decode cX2_toldAs 22 = .ok (.iload_n 2, 1) := by decide +kernel
theorem dX2_toldAs_23 : decode cX2_toldAs 23 = .ok (.ifCond .ne 5, 3) := by decide +kernel
theorem dX2_toldAs_26 : decode cX2_toldAs 26 = .ok (.iconst 0, 1) := by decide +kernel
theorem dX2_toldAs_27 : decode cX2_toldAs 27 = .ok (.ireturn, 1) := by decide +kernel
theorem dX2_toldAs_28 : decode cX2_toldAs 28 = .ok (.iconst 0, 1) := by decide +kernel
theorem dX2_toldAs_29 : decode cX2_toldAs 29 = .ok (.istore 4, 2) := by decide +kernel
theorem dX2_toldAs_31 : decode cX2_toldAs 31 = .ok (.aload_n 0, 1) := by decide +kernel
theorem dX2_toldAs_32 : decode cX2_toldAs 32 = .ok (.getfield 25, 3) := by decide +kernel
theorem dX2_toldAs_35 : decode cX2_toldAs 35 = .ok (.iconst 1, 1) := by decide +kernel
theorem dX2_toldAs_36 : decode cX2_toldAs 36 = .ok (.isub, 1) := by decide +kernel
theorem dX2_toldAs_37 : decode cX2_toldAs 37 = .ok (.istore 5, 2) := by decide +kernel
theorem dX2_toldAs_39 : decode cX2_toldAs 39 = .ok (.iload 5, 2) := by decide +kernel
theorem dX2_toldAs_41 : decode cX2_toldAs 41 = .ok (.ifCond .lt 68, 3) := by decide +kernel
theorem dX2_toldAs_44 : decode cX2_toldAs 44 = .ok (.aload_n 0, 1) := by decide +kernel
theorem dX2_toldAs_45 : decode cX2_toldAs 45 = .ok (.getfield 9, 3) := by decide +kernel
theorem dX2_toldAs_48 : decode cX2_toldAs 48 = .ok (.iload 5, 2) := by decide +kernel
theorem dX2_toldAs_50 : decode cX2_toldAs 50 = .ok (.iaload, 1) := by decide +kernel
theorem dX2_toldAs_51 : decode cX2_toldAs 51 = .ok (.istore 6, 2) := by decide +kernel
theorem dX2_toldAs_53 : decode cX2_toldAs 53 = .ok (.iload_n 1, 1) := by decide +kernel
theorem dX2_toldAs_54 : decode cX2_toldAs 54 = .ok (.iconst 4, 1) := by decide +kernel
theorem dX2_toldAs_55 : decode cX2_toldAs 55 = .ok (.if_icmp .ne 13, 3) := by decide +kernel
theorem dX2_toldAs_58 : decode cX2_toldAs 58 = .ok (.iload 6, 2) := by decide +kernel
theorem dX2_toldAs_60 : decode cX2_toldAs 60 = .ok (.iconst 2, 1) := by decide +kernel
theorem dX2_toldAs_61 : decode cX2_toldAs 61 = .ok (.irem, 1) := by decide +kernel
theorem dX2_toldAs_62 : decode cX2_toldAs 62 = .ok (.ifCond .ne 6, 3) := by decide +kernel
theorem dX2_toldAs_65 : decode cX2_toldAs 65 = .ok (.goto 38, 3) := by decide +kernel
theorem dX2_toldAs_68 : decode cX2_toldAs 68 = .ok (.iload_n 1, 1) := by decide +kernel
theorem dX2_toldAs_69 : decode cX2_toldAs 69 = .ok (.iload_n 2, 1) := by decide +kernel
theorem dX2_toldAs_70 : decode cX2_toldAs 70 = .ok (.aload_n 3, 1) := by decide +kernel
theorem dX2_toldAs_71 : decode cX2_toldAs 71 = .ok (.iload 6, 2) := by decide +kernel
theorem dX2_toldAs_73 : decode cX2_toldAs 73 = .ok (.iaload, 1) := by decide +kernel
theorem dX2_toldAs_74 : decode cX2_toldAs 74 = .ok (.invokestatic 68, 3) := by decide +kernel
theorem dX2_toldAs_77 : decode cX2_toldAs 77 = .ok (.ifCond .ne 6, 3) := by decide +kernel
theorem dX2_toldAs_80 : decode cX2_toldAs 80 = .ok (.goto 23, 3) := by decide +kernel
theorem dX2_toldAs_83 : decode cX2_toldAs 83 = .ok (.iload 4, 2) := by decide +kernel
theorem dX2_toldAs_85 : decode cX2_toldAs 85 = .ok (.iconst 1, 1) := by decide +kernel
theorem dX2_toldAs_86 : decode cX2_toldAs 86 = .ok (.iload 6, 2) := by decide +kernel
theorem dX2_toldAs_88 : decode cX2_toldAs 88 = .ok (.ishl, 1) := by decide +kernel
theorem dX2_toldAs_89 : decode cX2_toldAs 89 = .ok (.ior, 1) := by decide +kernel
theorem dX2_toldAs_90 : decode cX2_toldAs 90 = .ok (.istore 4, 2) := by decide +kernel
theorem dX2_toldAs_92 : decode cX2_toldAs 92 = .ok (.iload_n 1, 1) := by decide +kernel
theorem dX2_toldAs_93 : decode cX2_toldAs 93 = .ok (.iconst 1, 1) := by decide +kernel
theorem dX2_toldAs_94 : decode cX2_toldAs 94 = .ok (.invokestatic 64, 3) := by decide +kernel
theorem dX2_toldAs_97 : decode cX2_toldAs 97 = .ok (.ifCond .eq 6, 3) := by decide +kernel
theorem dX2_toldAs_100 : decode cX2_toldAs 100 = .ok (.goto 9, 3) := by decide +kernel
theorem dX2_toldAs_103 : decode cX2_toldAs 103 = .ok (.iinc 5 (-1), 3) := by decide +kernel
theorem dX2_toldAs_106 : decode cX2_toldAs 106 = .ok (.goto (-67), 3) := by decide +kernel
theorem dX2_toldAs_109 : decode cX2_toldAs 109 = .ok (.iload 4, 2) := by decide +kernel
theorem dX2_toldAs_111 : decode cX2_toldAs 111 = .ok (.ireturn, 1) := by decide +kernel
def fX2_toldAs_103 (k39 : Nat → Int32 → Int32 → Nat → Int32 → Int32 → gz_H → Option (Int32 × gz_H)) (a0 : Nat) (x1 : Int32) (x2 : Int32) (a3 : Nat) (x4 : Int32) (x5 : Int32) (h : gz_H) : Option (Int32 × gz_H) :=
    k39 a0 x1 x2 a3 x4 (x5 + (-1)) h
set_option maxRecDepth 100000 in
set_option maxHeartbeats 1000000 in
theorem sX2_toldAs_103 {G : gz_G} {d l0 s0 : Nat} {Q : Int32 → gz_H → Prop} {k39 : Nat → Int32 → Int32 → Nat → Int32 → Int32 → gz_H → Option (Int32 × gz_H)} (hk39 : ∀ (a0 : Nat) (x1 : Int32) (x2 : Int32) (a3 : Nat) (x4 : Int32) (x5 : Int32) (h : gz_H), gz_g (k39 a0 x1 x2 a3 x4 x5 h) Q → gz_Ok G mX2_toldAs (d + 1, l0, s0, 0, 0) 39 [.ref a0, .int x1, .int x2, .ref a3, .int x4, .int x5, .retAddr 0] [] h (gz_qi Q)) (a0 : Nat) (x1 : Int32) (x2 : Int32) (a3 : Nat) (x4 : Int32) (x5 : Int32) (h : gz_H) (hf : gz_g (fX2_toldAs_103 k39 a0 x1 x2 a3 x4 x5 h) Q) : gz_Ok G mX2_toldAs (d + 1, l0, s0, 0, 0) 103 [.ref a0, .int x1, .int x2, .ref a3, .int x4, .int x5, .retAddr 0] [] h (gz_qi Q) := by
  unfold fX2_toldAs_103 at hf
  refine gz_iinc (v := x5 + (-1)) (lv := [.ref a0, .int x1, .int x2, .ref a3, .int x4, .int (x5 + (-1)), .retAddr 0]) (pc := 103) dX2_toldAs_103 rfl rfl (by decide) rfl ?_
  refine gz_goto (tgt := 39) (pc := 106) dX2_toldAs_106 rfl ?_
  exact hk39 a0 x1 x2 a3 x4 (x5 + (-1)) h hf
def fX2_toldAs_68 (k39 : Nat → Int32 → Int32 → Nat → Int32 → Int32 → gz_H → Option (Int32 × gz_H)) (a0 : Nat) (x1 : Int32) (x2 : Int32) (a3 : Nat) (x4 : Int32) (x5 : Int32) (x6 : Int32) (h : gz_H) : Option (Int32 × gz_H) :=
    gz_ck (gz_inb h a3 10 x6) <|
    gz_b2 (fX2_isCalledBy x1 x2 (h.2.1 a3 x6.toNatClampNeg) h) fun y_3 h_2 =>
    if y_3 = 0 then (
     fX2_toldAs_103 k39 a0 x1 x2 a3 x4 x5 h_2
    ) else (
     gz_b2 (fX8_isOf x1 (1 : Int32) h_2) fun y_6 h_5 =>
     if y_6 = 0 then (
      fX2_toldAs_103 k39 a0 x1 x2 a3 (x4 ||| ((1 : Int32) <<< (x6 &&& 31))) x5 h_5
     ) else (
      some (x4 ||| ((1 : Int32) <<< (x6 &&& 31)), h_5)
     )
    )
set_option maxRecDepth 100000 in
set_option maxHeartbeats 1000000 in
theorem sX2_toldAs_68 {G : gz_G} {d l0 s0 : Nat} {Q : Int32 → gz_H → Prop} {k39 : Nat → Int32 → Int32 → Nat → Int32 → Int32 → gz_H → Option (Int32 × gz_H)} (hk39 : ∀ (a0 : Nat) (x1 : Int32) (x2 : Int32) (a3 : Nat) (x4 : Int32) (x5 : Int32) (h : gz_H), gz_g (k39 a0 x1 x2 a3 x4 x5 h) Q → gz_Ok G mX2_toldAs (d + 1, l0, s0, 0, 0) 39 [.ref a0, .int x1, .int x2, .ref a3, .int x4, .int x5, .retAddr 0] [] h (gz_qi Q)) (a0 : Nat) (x1 : Int32) (x2 : Int32) (a3 : Nat) (x4 : Int32) (x5 : Int32) (x6 : Int32) (h : gz_H) (hf : gz_g (fX2_toldAs_68 k39 a0 x1 x2 a3 x4 x5 x6 h) Q) : gz_Ok G mX2_toldAs (d + 1, l0, s0, 0, 0) 68 [.ref a0, .int x1, .int x2, .ref a3, .int x4, .int x5, .int x6] [] h (gz_qi Q) := by
  unfold fX2_toldAs_68 at hf
  refine gz_iload_n (pc := 68) dX2_toldAs_68 rfl rfl ?_
  refine gz_iload_n (pc := 69) dX2_toldAs_69 rfl rfl ?_
  refine gz_aload_n (pc := 70) dX2_toldAs_70 rfl rfl ?_
  refine gz_iload (pc := 71) dX2_toldAs_71 rfl ?_
  refine gz_gk hf (fun c_1 hf => ?_)
  refine gz_iald (pc := 73) dX2_toldAs_73 c_1 ?_
  refine gz_cSI (av := [.int x1, .int x2, .int (h.2.1 a3 x6.toNatClampNeg)]) (st := []) (pc := 74) dX2_toldAs_74 kl_RX2_68 rfl rfl (Nat.le_of_ble_eq_true rfl) (by show d + 0 + 0 + 1 ≤ d + 1; omega) (sX2_isCalledBy (d := d + 0) (gz_gc hf)) (fun y_3 h_2 hf => ?_)
  refine gz_if_ne (tgt := 83) (pc := 77) dX2_toldAs_77 rfl (fun c_4 => ?_) (fun c_4 => ?_)
  · have hf := gz_gF hf c_4
    refine gz_iload (pc := 83) dX2_toldAs_83 rfl ?_
    refine gz_iconst (v := (1 : Int32)) (pc := 85) dX2_toldAs_85 rfl ?_
    refine gz_iload (pc := 86) dX2_toldAs_86 rfl ?_
    refine gz_ishl (pc := 88) dX2_toldAs_88 ?_
    refine gz_ior (pc := 89) dX2_toldAs_89 ?_
    refine gz_istore (lv := [.ref a0, .int x1, .int x2, .ref a3, .int (x4 ||| ((1 : Int32) <<< (x6 &&& 31))), .int x5, .int x6]) (pc := 90) dX2_toldAs_90 (by decide) rfl ?_
    refine gz_iload_n (pc := 92) dX2_toldAs_92 rfl rfl ?_
    refine gz_iconst (v := (1 : Int32)) (pc := 93) dX2_toldAs_93 rfl ?_
    refine gz_cSI (av := [.int x1, .int (1 : Int32)]) (st := []) (pc := 94) dX2_toldAs_94 kl_RX2_64 rfl rfl (Nat.le_of_ble_eq_true rfl) (by show d + 0 + 0 + 1 ≤ d + 1; omega) (sX8_isOf (d := d + 0) (gz_gc hf)) (fun y_6 h_5 hf => ?_)
    refine gz_if_eq (tgt := 103) (pc := 97) dX2_toldAs_97 rfl (fun c_7 => ?_) (fun c_7 => ?_)
    · have hf := gz_gT hf c_7
      refine gz_fg (lv := [.ref a0, .int x1, .int x2, .ref a3, .int (x4 ||| ((1 : Int32) <<< (x6 &&& 31))), .int x5, .retAddr 0]) ⟨Or.inr rfl, ⟨Or.inr rfl, ⟨Or.inr rfl, ⟨Or.inr rfl, ⟨Or.inr rfl, ⟨Or.inr rfl, ⟨Or.inl rfl, trivial⟩⟩⟩⟩⟩⟩⟩ ?_
      exact sX2_toldAs_103 hk39 a0 x1 x2 a3 (x4 ||| ((1 : Int32) <<< (x6 &&& 31))) x5 h_5 hf
    · have hf := gz_gF hf c_7
      refine gz_goto (tgt := 109) (pc := 100) dX2_toldAs_100 rfl ?_
      refine gz_iload (pc := 109) dX2_toldAs_109 rfl ?_
      exact gz_irt (pc := 111) dX2_toldAs_111 rfl rfl hf
  · have hf := gz_gT hf c_4
    refine gz_goto (tgt := 103) (pc := 80) dX2_toldAs_80 rfl ?_
    refine gz_fg (lv := [.ref a0, .int x1, .int x2, .ref a3, .int x4, .int x5, .retAddr 0]) ⟨Or.inr rfl, ⟨Or.inr rfl, ⟨Or.inr rfl, ⟨Or.inr rfl, ⟨Or.inr rfl, ⟨Or.inr rfl, ⟨Or.inl rfl, trivial⟩⟩⟩⟩⟩⟩⟩ ?_
    exact sX2_toldAs_103 hk39 a0 x1 x2 a3 x4 x5 h_2 hf
def fX2_toldAs_39  : Nat → Nat → Int32 → Int32 → Nat → Int32 → Int32 → gz_H → Option (Int32 × gz_H)
  | 0, _, _, _, _, _, _, _ => none
  | n + 1, a0, x1, x2, a3, x4, x5, h =>
    if x5 < 0 then (
     some (x4, h)
    ) else (
     gz_ck (gz_sh h a0 2 6) <|
     gz_br (h.2.2.2 a0 0) fun r_3 =>
     gz_ck (gz_inb h r_3 10 x5) <|
     if x1 = (4 : Int32) then (
      if ((h.2.1 r_3 x5.toNatClampNeg) - (h.2.1 r_3 x5.toNatClampNeg) / (2 : Int32) * (2 : Int32)) = 0 then (
       fX2_toldAs_103 (fun z0 z1 z2 z3 z4 z5 zh => fX2_toldAs_39 n z0 z1 z2 z3 z4 z5 zh) a0 x1 x2 a3 x4 x5 h
      ) else (
       fX2_toldAs_68 (fun z0 z1 z2 z3 z4 z5 zh => fX2_toldAs_39 n z0 z1 z2 z3 z4 z5 zh) a0 x1 x2 a3 x4 x5 (h.2.1 r_3 x5.toNatClampNeg) h
      )
     ) else (
      fX2_toldAs_68 (fun z0 z1 z2 z3 z4 z5 zh => fX2_toldAs_39 n z0 z1 z2 z3 z4 z5 zh) a0 x1 x2 a3 x4 x5 (h.2.1 r_3 x5.toNatClampNeg) h
     )
    )
set_option maxRecDepth 100000 in
set_option maxHeartbeats 1000000 in
theorem sX2_toldAs_39 {G : gz_G} {d l0 s0 : Nat} {Q : Int32 → gz_H → Prop} : ∀ (n : Nat) (a0 : Nat) (x1 : Int32) (x2 : Int32) (a3 : Nat) (x4 : Int32) (x5 : Int32) (h : gz_H), gz_g (fX2_toldAs_39  n a0 x1 x2 a3 x4 x5 h) Q → gz_Ok G mX2_toldAs (d + 1, l0, s0, 0, 0) 39 [.ref a0, .int x1, .int x2, .ref a3, .int x4, .int x5, .retAddr 0] [] h (gz_qi Q) := by
  intro n
  induction n with
  | zero => intro a0 x1 x2 a3 x4 x5 h hf; exact False.elim hf
  | succ n ih =>
    intro a0 x1 x2 a3 x4 x5 h hf
    rw [fX2_toldAs_39] at hf
    refine gz_iload (pc := 39) dX2_toldAs_39 rfl ?_
    refine gz_if_lt (tgt := 109) (pc := 41) dX2_toldAs_41 rfl (fun c_1 => ?_) (fun c_1 => ?_)
    · have hf := gz_gT hf c_1
      refine gz_iload (pc := 109) dX2_toldAs_109 rfl ?_
      exact gz_irt (pc := 111) dX2_toldAs_111 rfl rfl hf
    · have hf := gz_gF hf c_1
      refine gz_aload_n (pc := 44) dX2_toldAs_44 rfl rfl ?_
      refine gz_gk hf (fun c_2 hf => ?_)
      refine gz_gb hf (fun r_3 er_3 hf => ?_)
      refine gz_getR (pc := 45) dX2_toldAs_45 fl_RX2_9 rfl (gz_shs c_2) er_3 ?_
      refine gz_iload (pc := 48) dX2_toldAs_48 rfl ?_
      refine gz_gk hf (fun c_4 hf => ?_)
      refine gz_iald (pc := 50) dX2_toldAs_50 c_4 ?_
      refine gz_istore (lv := [.ref a0, .int x1, .int x2, .ref a3, .int x4, .int x5, .int (h.2.1 r_3 x5.toNatClampNeg)]) (pc := 51) dX2_toldAs_51 (by decide) rfl ?_
      refine gz_iload_n (pc := 53) dX2_toldAs_53 rfl rfl ?_
      refine gz_iconst (v := (4 : Int32)) (pc := 54) dX2_toldAs_54 rfl ?_
      refine gz_icmp_ne (tgt := 68) (pc := 55) dX2_toldAs_55 rfl (fun c_5 => ?_) (fun c_5 => ?_)
      · have hf := gz_gF hf c_5
        exact sX2_toldAs_68 ih a0 x1 x2 a3 x4 x5 (h.2.1 r_3 x5.toNatClampNeg) h hf
      · have hf := gz_gT hf c_5
        refine gz_iload (pc := 58) dX2_toldAs_58 rfl ?_
        refine gz_iconst (v := (2 : Int32)) (pc := 60) dX2_toldAs_60 rfl ?_
        refine gz_irem (pc := 61) dX2_toldAs_61 (by decide) ?_
        refine gz_if_ne (tgt := 68) (pc := 62) dX2_toldAs_62 rfl (fun c_6 => ?_) (fun c_6 => ?_)
        · have hf := gz_gF hf c_6
          exact sX2_toldAs_68 ih a0 x1 x2 a3 x4 x5 (h.2.1 r_3 x5.toNatClampNeg) h hf
        · have hf := gz_gT hf c_6
          refine gz_goto (tgt := 103) (pc := 65) dX2_toldAs_65 rfl ?_
          refine gz_fg (lv := [.ref a0, .int x1, .int x2, .ref a3, .int x4, .int x5, .retAddr 0]) ⟨Or.inr rfl, ⟨Or.inr rfl, ⟨Or.inr rfl, ⟨Or.inr rfl, ⟨Or.inr rfl, ⟨Or.inr rfl, ⟨Or.inl rfl, trivial⟩⟩⟩⟩⟩⟩⟩ ?_
          exact sX2_toldAs_103 ih a0 x1 x2 a3 x4 x5 h hf
def fX2_toldAs_28  (a0 : Nat) (x1 : Int32) (x2 : Int32) (a3 : Nat) (h : gz_H) : Option (Int32 × gz_H) :=
    gz_ck (gz_sh h a0 2 6) <|
    fX2_toldAs_39 gz_fu a0 x1 x2 a3 (0 : Int32) ((h.2.1 a0 1) - (1 : Int32)) h
set_option maxRecDepth 100000 in
set_option maxHeartbeats 1000000 in
theorem sX2_toldAs_28 {G : gz_G} {d l0 s0 : Nat} {Q : Int32 → gz_H → Prop} (a0 : Nat) (x1 : Int32) (x2 : Int32) (a3 : Nat) (h : gz_H) (hf : gz_g (fX2_toldAs_28  a0 x1 x2 a3 h) Q) : gz_Ok G mX2_toldAs (d + 1, l0, s0, 0, 0) 28 [.ref a0, .int x1, .int x2, .ref a3, .retAddr 0, .retAddr 0, .retAddr 0] [] h (gz_qi Q) := by
  unfold fX2_toldAs_28 at hf
  refine gz_iconst (v := (0 : Int32)) (pc := 28) dX2_toldAs_28 rfl ?_
  refine gz_istore (lv := [.ref a0, .int x1, .int x2, .ref a3, .int (0 : Int32), .retAddr 0, .retAddr 0]) (pc := 29) dX2_toldAs_29 (by decide) rfl ?_
  refine gz_aload_n (pc := 31) dX2_toldAs_31 rfl rfl ?_
  refine gz_gk hf (fun c_1 hf => ?_)
  refine gz_getI (pc := 32) dX2_toldAs_32 fl_RX2_25 rfl (gz_shs c_1) ?_
  refine gz_iconst (v := (1 : Int32)) (pc := 35) dX2_toldAs_35 rfl ?_
  refine gz_isub (pc := 36) dX2_toldAs_36 ?_
  refine gz_istore (lv := [.ref a0, .int x1, .int x2, .ref a3, .int (0 : Int32), .int ((h.2.1 a0 1) - (1 : Int32)), .retAddr 0]) (pc := 37) dX2_toldAs_37 (by decide) rfl ?_
  exact sX2_toldAs_39 gz_fu a0 x1 x2 a3 (0 : Int32) ((h.2.1 a0 1) - (1 : Int32)) h hf
def fX2_toldAs_17  (a0 : Nat) (x1 : Int32) (x2 : Int32) (a3 : Nat) (h : gz_H) : Option (Int32 × gz_H) :=
    if x1 = (5 : Int32) then (
     if x2 = 0 then (
      some ((0 : Int32), h)
     ) else (
      fX2_toldAs_28 a0 x1 x2 a3 h
     )
    ) else (
     fX2_toldAs_28 a0 x1 x2 a3 h
    )
set_option maxRecDepth 100000 in
set_option maxHeartbeats 1000000 in
theorem sX2_toldAs_17 {G : gz_G} {d l0 s0 : Nat} {Q : Int32 → gz_H → Prop} (a0 : Nat) (x1 : Int32) (x2 : Int32) (a3 : Nat) (h : gz_H) (hf : gz_g (fX2_toldAs_17  a0 x1 x2 a3 h) Q) : gz_Ok G mX2_toldAs (d + 1, l0, s0, 0, 0) 17 [.ref a0, .int x1, .int x2, .ref a3, .retAddr 0, .retAddr 0, .retAddr 0] [] h (gz_qi Q) := by
  unfold fX2_toldAs_17 at hf
  refine gz_iload_n (pc := 17) dX2_toldAs_17 rfl rfl ?_
  refine gz_iconst (v := (5 : Int32)) (pc := 18) dX2_toldAs_18 rfl ?_
  refine gz_icmp_ne (tgt := 28) (pc := 19) dX2_toldAs_19 rfl (fun c_1 => ?_) (fun c_1 => ?_)
  · have hf := gz_gF hf c_1
    exact sX2_toldAs_28 a0 x1 x2 a3 h hf
  · have hf := gz_gT hf c_1
    refine gz_iload_n (pc := 22) dX2_toldAs_22 rfl rfl ?_
    refine gz_if_ne (tgt := 28) (pc := 23) dX2_toldAs_23 rfl (fun c_2 => ?_) (fun c_2 => ?_)
    · have hf := gz_gF hf c_2
      exact sX2_toldAs_28 a0 x1 x2 a3 h hf
    · have hf := gz_gT hf c_2
      refine gz_iconst (v := (0 : Int32)) (pc := 26) dX2_toldAs_26 rfl ?_
      exact gz_irt (pc := 27) dX2_toldAs_27 rfl rfl hf
def fX2_toldAs_0  (a0 : Nat) (x1 : Int32) (x2 : Int32) (a3 : Nat) (h : gz_H) : Option (Int32 × gz_H) :=
    gz_b2 (fX8_isOf x1 (3 : Int32) h) fun y_2 h_1 =>
    if y_2 = 0 then (
     fX2_toldAs_17 a0 x1 x2 a3 h_1
    ) else (
     gz_ck (gz_sh h_1 a0 2 6) <|
     gz_b2 (fX2_isFilled a0 h_1) fun y_5 h_4 =>
     if y_5 = 0 then (
      fX2_toldAs_17 a0 x1 x2 a3 h_4
     ) else (
      some ((0 : Int32), h_4)
     )
    )
set_option maxRecDepth 100000 in
set_option maxHeartbeats 1000000 in
theorem sX2_toldAs_0 {G : gz_G} {d l0 s0 : Nat} {Q : Int32 → gz_H → Prop} (a0 : Nat) (x1 : Int32) (x2 : Int32) (a3 : Nat) (h : gz_H) (hf : gz_g (fX2_toldAs_0  a0 x1 x2 a3 h) Q) : gz_Ok G mX2_toldAs (d + 1, l0, s0, 0, 0) 0 [.ref a0, .int x1, .int x2, .ref a3, .retAddr 0, .retAddr 0, .retAddr 0] [] h (gz_qi Q) := by
  unfold fX2_toldAs_0 at hf
  refine gz_iload_n (pc := 0) dX2_toldAs_0 rfl rfl ?_
  refine gz_iconst (v := (3 : Int32)) (pc := 1) dX2_toldAs_1 rfl ?_
  refine gz_cSI (av := [.int x1, .int (3 : Int32)]) (st := []) (pc := 2) dX2_toldAs_2 kl_RX2_64 rfl rfl (Nat.le_of_ble_eq_true rfl) (by show d + 0 + 0 + 1 ≤ d + 1; omega) (sX8_isOf (d := d + 0) (gz_gc hf)) (fun y_2 h_1 hf => ?_)
  refine gz_if_eq (tgt := 17) (pc := 5) dX2_toldAs_5 rfl (fun c_3 => ?_) (fun c_3 => ?_)
  · have hf := gz_gT hf c_3
    exact sX2_toldAs_17 a0 x1 x2 a3 h_1 hf
  · have hf := gz_gF hf c_3
    refine gz_aload_n (pc := 8) dX2_toldAs_8 rfl rfl ?_
    refine gz_gk hf (fun c_6 hf => ?_)
    refine gz_cVI (av := []) (st := []) (pc := 9) dX2_toldAs_9 kl_RX2_60 rfl (gz_shs c_6) rfl rfl (Nat.le_of_ble_eq_true rfl) (by show d + 0 + 0 + 1 ≤ d + 1; omega) (sX2_isFilled (d := d + 0) (gz_gc hf)) (fun y_5 h_4 hf => ?_)
    refine gz_if_eq (tgt := 17) (pc := 12) dX2_toldAs_12 rfl (fun c_7 => ?_) (fun c_7 => ?_)
    · have hf := gz_gT hf c_7
      exact sX2_toldAs_17 a0 x1 x2 a3 h_4 hf
    · have hf := gz_gF hf c_7
      refine gz_iconst (v := (0 : Int32)) (pc := 15) dX2_toldAs_15 rfl ?_
      exact gz_irt (pc := 16) dX2_toldAs_16 rfl rfl hf
def fX2_toldAs (a0 : Nat) (x1 : Int32) (x2 : Int32) (a3 : Nat) (h : gz_H) : Option (Int32 × gz_H) := fX2_toldAs_0 a0 x1 x2 a3 h
theorem sX2_toldAs {G : gz_G} {d : Nat} {a0 : Nat} {x1 : Int32} {x2 : Int32} {a3 : Nat} {h : gz_H} {Q : Int32 → gz_H → Prop} (hf : gz_g (fX2_toldAs a0 x1 x2 a3 h) Q) : gz_Cl G mX2_toldAs (d + 1) 0 0 [.ref a0, .int x1, .int x2, .ref a3] h (gz_qi Q) := gz_cl_of (lo := [.ref a0, .int x1, .int x2, .ref a3, .retAddr 0, .retAddr 0, .retAddr 0]) (by decide) rfl rfl (Nat.le_of_ble_eq_true rfl) (sX2_toldAs_0 a0 x1 x2 a3 h hf)
theorem dX1_toldAt_0 : decode cX1_toldAt 0 = .ok (.aload_n 0, 1) := by decide +kernel
theorem dX1_toldAt_1 : decode cX1_toldAt 1 = .ok (.getfield 17, 3) := by decide +kernel
theorem dX1_toldAt_4 : decode cX1_toldAt 4 = .ok (.iload_n 1, 1) := by decide +kernel
theorem dX1_toldAt_5 : decode cX1_toldAt 5 = .ok (.aaload, 1) := by decide +kernel
theorem dX1_toldAt_6 : decode cX1_toldAt 6 = .ok (.aload_n 0, 1) := by decide +kernel
theorem dX1_toldAt_7 : decode cX1_toldAt 7 = .ok (.getfield 17, 3) := by decide +kernel
theorem dX1_toldAt_10 : decode cX1_toldAt 10 = .ok (.iload_n 1, 1) := by decide +kernel
theorem dX1_toldAt_11 : decode cX1_toldAt 11 = .ok (.aaload, 1) := by decide +kernel
theorem dX1_toldAt_12 : decode cX1_toldAt 12 = .ok (.getfield 53, 3) := by decide +kernel
theorem dX1_toldAt_15 : decode cX1_toldAt 15 = .ok (.iload_n 2, 1) := by decide +kernel
theorem dX1_toldAt_16 : decode cX1_toldAt 16 = .ok (.aload_n 0, 1) := by decide +kernel
theorem dX1_toldAt_17 : decode cX1_toldAt 17 = .ok (.getfield 9, 3) := by decide +kernel
theorem dX1_toldAt_20 : decode cX1_toldAt 20 = .ok (.invokevirtual 103, 3) := by decide +kernel
theorem dX1_toldAt_23 : decode cX1_toldAt 23 = .ok (.ireturn, 1) := by decide +kernel
def fX1_toldAt_0  (a0 : Nat) (x1 : Int32) (x2 : Int32) (h : gz_H) : Option (Int32 × gz_H) :=
    gz_ck (gz_sh h a0 1 4) <|
    gz_br (h.2.2.2 a0 1) fun r_2 =>
    gz_ck (gz_inb h r_2 11 x1) <|
    gz_br (h.2.2.2 r_2 x1.toNatClampNeg) fun r_4 =>
    gz_ck (gz_sh h r_4 2 6) <|
    gz_br (h.2.2.2 a0 0) fun r_6 =>
    gz_b2 (fX2_toldAs r_4 (h.2.1 r_4 2) x2 r_6 h) fun y_8 h_7 =>
    some (y_8, h_7)
set_option maxRecDepth 100000 in
set_option maxHeartbeats 1000000 in
theorem sX1_toldAt_0 {G : gz_G} {d l0 s0 : Nat} {Q : Int32 → gz_H → Prop} (a0 : Nat) (x1 : Int32) (x2 : Int32) (h : gz_H) (hf : gz_g (fX1_toldAt_0  a0 x1 x2 h) Q) : gz_Ok G mX1_toldAt (d + 2, l0, s0, 0, 0) 0 [.ref a0, .int x1, .int x2] [] h (gz_qi Q) := by
  unfold fX1_toldAt_0 at hf
  refine gz_aload_n (pc := 0) dX1_toldAt_0 rfl rfl ?_
  refine gz_gk hf (fun c_1 hf => ?_)
  refine gz_gb hf (fun r_2 er_2 hf => ?_)
  refine gz_getR (pc := 1) dX1_toldAt_1 fl_RX1_17 rfl (gz_shs c_1) er_2 ?_
  refine gz_iload_n (pc := 4) dX1_toldAt_4 rfl rfl ?_
  refine gz_gk hf (fun c_3 hf => ?_)
  refine gz_gb hf (fun r_4 er_4 hf => ?_)
  refine gz_aald (Or.inl rfl) (pc := 5) dX1_toldAt_5 c_3 er_4 ?_
  refine gz_aload_n (pc := 6) dX1_toldAt_6 rfl rfl ?_
  refine gz_getR (pc := 7) dX1_toldAt_7 fl_RX1_17 rfl (gz_shs c_1) er_2 ?_
  refine gz_iload_n (pc := 10) dX1_toldAt_10 rfl rfl ?_
  refine gz_aald (Or.inl rfl) (pc := 11) dX1_toldAt_11 c_3 er_4 ?_
  refine gz_gk hf (fun c_5 hf => ?_)
  refine gz_getI (pc := 12) dX1_toldAt_12 fl_RX1_53 rfl (gz_shs c_5) ?_
  refine gz_iload_n (pc := 15) dX1_toldAt_15 rfl rfl ?_
  refine gz_aload_n (pc := 16) dX1_toldAt_16 rfl rfl ?_
  refine gz_gb hf (fun r_6 er_6 hf => ?_)
  refine gz_getR (pc := 17) dX1_toldAt_17 fl_RX1_9 rfl (gz_shs c_1) er_6 ?_
  refine gz_cVI (av := [.int (h.2.1 r_4 2), .int x2, .ref r_6]) (st := []) (pc := 20) dX1_toldAt_20 kl_RX1_103 rfl (gz_shs c_5) rfl rfl (Nat.le_of_ble_eq_true rfl) (by show d + 0 + 1 + 1 ≤ d + 2; omega) (sX2_toldAs (d := d + 0) (gz_gc hf)) (fun y_8 h_7 hf => ?_)
  exact gz_irt (pc := 23) dX1_toldAt_23 rfl rfl hf
def fX1_toldAt (a0 : Nat) (x1 : Int32) (x2 : Int32) (h : gz_H) : Option (Int32 × gz_H) := fX1_toldAt_0 a0 x1 x2 h
theorem sX1_toldAt {G : gz_G} {d : Nat} {a0 : Nat} {x1 : Int32} {x2 : Int32} {h : gz_H} {Q : Int32 → gz_H → Prop} (hf : gz_g (fX1_toldAt a0 x1 x2 h) Q) : gz_Cl G mX1_toldAt (d + 2) 0 0 [.ref a0, .int x1, .int x2] h (gz_qi Q) := gz_cl_of (lo := [.ref a0, .int x1, .int x2]) (by decide) rfl rfl (Nat.le_of_ble_eq_true rfl) (sX1_toldAt_0 a0 x1 x2 h hf)
theorem dX1_toldSomewhere_0 : decode cX1_toldSomewhere 0 = .ok (.iconst 0, 1) := by decide +kernel
theorem dX1_toldSomewhere_1 : decode cX1_toldSomewhere 1 = .ok (.istore_n 2, 1) := by decide +kernel
theorem dX1_toldSomewhere_2 : decode cX1_toldSomewhere 2 = .ok (.iconst 0, 1) := by decide +kernel
theorem dX1_toldSomewhere_3 : decode cX1_toldSomewhere 3 = .ok (.istore_n 3, 1) := by decide +kernel
theorem dX1_toldSomewhere_4 : decode cX1_toldSomewhere 4 = .ok (.iload_n 3, 1) := by decide +kernel
theorem dX1_toldSomewhere_5 : decode cX1_toldSomewhere 5 = .ok (.bipush 6, 2) := by decide +kernel
theorem dX1_toldSomewhere_7 : decode cX1_toldSomewhere 7 = .ok (.if_icmp .ge 18, 3) := by decide +kernel
theorem dX1_toldSomewhere_10 : decode cX1_toldSomewhere 10 = .ok (.iload_n 2, 1) := by decide +kernel
theorem dX1_toldSomewhere_11 : decode cX1_toldSomewhere 11 = .ok (.aload_n 0, 1) := by decide +kernel
theorem dX1_toldSomewhere_12 : decode cX1_toldSomewhere 12 = .ok (.iload_n 1, 1) := by decide +kernel
theorem dX1_toldSomewhere_13 : decode cX1_toldSomewhere 13 = .ok (.iload_n 3, 1) := by decide +kernel
theorem dX1_toldSomewhere_14 : decode cX1_toldSomewhere 14 = .ok (.invokevirtual 107, 3) := by decide +kernel
theorem dX1_toldSomewhere_17 : decode cX1_toldSomewhere 17 = .ok (.ior, 1) := by decide +kernel
theorem dX1_toldSomewhere_18 : decode cX1_toldSomewhere 18 = .ok (.istore_n 2, 1) := by decide +kernel
theorem dX1_toldSomewhere_19 : decode cX1_toldSomewhere 19 = .ok (.iinc 3 1, 3) := by decide +kernel
theorem dX1_toldSomewhere_22 : decode cX1_toldSomewhere 22 = .ok (.goto (-18), 3) := by decide +kernel
theorem dX1_toldSomewhere_25 : decode cX1_toldSomewhere 25 = .ok (.iload_n 2, 1) := by decide +kernel
theorem dX1_toldSomewhere_26 : decode cX1_toldSomewhere 26 = .ok (.ireturn, 1) := by decide +kernel
def fX1_toldSomewhere_4  : Nat → Nat → Int32 → Int32 → Int32 → gz_H → Option (Int32 × gz_H)
  | 0, _, _, _, _, _ => none
  | n + 1, a0, x1, x2, x3, h =>
    if (6 : Int32) ≤ x3 then (
     some (x2, h)
    ) else (
     gz_ck (gz_sh h a0 1 4) <|
     gz_b2 (fX1_toldAt a0 x1 x3 h) fun y_3 h_2 =>
     fX1_toldSomewhere_4 n a0 x1 (x2 ||| y_3) (x3 + 1) h_2
    )
set_option maxRecDepth 100000 in
set_option maxHeartbeats 1000000 in
theorem sX1_toldSomewhere_4 {G : gz_G} {d l0 s0 : Nat} {Q : Int32 → gz_H → Prop} : ∀ (n : Nat) (a0 : Nat) (x1 : Int32) (x2 : Int32) (x3 : Int32) (h : gz_H), gz_g (fX1_toldSomewhere_4  n a0 x1 x2 x3 h) Q → gz_Ok G mX1_toldSomewhere (d + 3, l0, s0, 0, 0) 4 [.ref a0, .int x1, .int x2, .int x3] [] h (gz_qi Q) := by
  intro n
  induction n with
  | zero => intro a0 x1 x2 x3 h hf; exact False.elim hf
  | succ n ih =>
    intro a0 x1 x2 x3 h hf
    rw [fX1_toldSomewhere_4] at hf
    refine gz_iload_n (pc := 4) dX1_toldSomewhere_4 rfl rfl ?_
    refine gz_bipush (v := (6 : Int32)) (pc := 5) dX1_toldSomewhere_5 rfl ?_
    refine gz_icmp_ge (tgt := 25) (pc := 7) dX1_toldSomewhere_7 rfl (fun c_1 => ?_) (fun c_1 => ?_)
    · have hf := gz_gT hf c_1
      refine gz_iload_n (pc := 25) dX1_toldSomewhere_25 rfl rfl ?_
      exact gz_irt (pc := 26) dX1_toldSomewhere_26 rfl rfl hf
    · have hf := gz_gF hf c_1
      refine gz_iload_n (pc := 10) dX1_toldSomewhere_10 rfl rfl ?_
      refine gz_aload_n (pc := 11) dX1_toldSomewhere_11 rfl rfl ?_
      refine gz_iload_n (pc := 12) dX1_toldSomewhere_12 rfl rfl ?_
      refine gz_iload_n (pc := 13) dX1_toldSomewhere_13 rfl rfl ?_
      refine gz_gk hf (fun c_4 hf => ?_)
      refine gz_cVI (av := [.int x1, .int x3]) (st := [.int x2]) (pc := 14) dX1_toldSomewhere_14 kl_RX1_107 rfl (gz_shs c_4) rfl rfl (Nat.le_of_ble_eq_true rfl) (by show d + 0 + 2 + 1 ≤ d + 3; omega) (sX1_toldAt (d := d + 0) (gz_gc hf)) (fun y_3 h_2 hf => ?_)
      refine gz_ior (pc := 17) dX1_toldSomewhere_17 ?_
      refine gz_istore_n (lv := [.ref a0, .int x1, .int (x2 ||| y_3), .int x3]) (pc := 18) dX1_toldSomewhere_18 rfl (by decide) rfl ?_
      refine gz_iinc (v := x3 + 1) (lv := [.ref a0, .int x1, .int (x2 ||| y_3), .int (x3 + 1)]) (pc := 19) dX1_toldSomewhere_19 rfl rfl (by decide) rfl ?_
      refine gz_goto (tgt := 4) (pc := 22) dX1_toldSomewhere_22 rfl ?_
      exact ih a0 x1 (x2 ||| y_3) (x3 + 1) h_2 hf
def fX1_toldSomewhere_0  (a0 : Nat) (x1 : Int32) (h : gz_H) : Option (Int32 × gz_H) :=
    fX1_toldSomewhere_4 gz_fu a0 x1 (0 : Int32) (0 : Int32) h
set_option maxRecDepth 100000 in
set_option maxHeartbeats 1000000 in
theorem sX1_toldSomewhere_0 {G : gz_G} {d l0 s0 : Nat} {Q : Int32 → gz_H → Prop} (a0 : Nat) (x1 : Int32) (h : gz_H) (hf : gz_g (fX1_toldSomewhere_0  a0 x1 h) Q) : gz_Ok G mX1_toldSomewhere (d + 3, l0, s0, 0, 0) 0 [.ref a0, .int x1, .retAddr 0, .retAddr 0] [] h (gz_qi Q) := by
  unfold fX1_toldSomewhere_0 at hf
  refine gz_iconst (v := (0 : Int32)) (pc := 0) dX1_toldSomewhere_0 rfl ?_
  refine gz_istore_n (lv := [.ref a0, .int x1, .int (0 : Int32), .retAddr 0]) (pc := 1) dX1_toldSomewhere_1 rfl (by decide) rfl ?_
  refine gz_iconst (v := (0 : Int32)) (pc := 2) dX1_toldSomewhere_2 rfl ?_
  refine gz_istore_n (lv := [.ref a0, .int x1, .int (0 : Int32), .int (0 : Int32)]) (pc := 3) dX1_toldSomewhere_3 rfl (by decide) rfl ?_
  exact sX1_toldSomewhere_4 gz_fu a0 x1 (0 : Int32) (0 : Int32) h hf
def fX1_toldSomewhere (a0 : Nat) (x1 : Int32) (h : gz_H) : Option (Int32 × gz_H) := fX1_toldSomewhere_0 a0 x1 h
theorem sX1_toldSomewhere {G : gz_G} {d : Nat} {a0 : Nat} {x1 : Int32} {h : gz_H} {Q : Int32 → gz_H → Prop} (hf : gz_g (fX1_toldSomewhere a0 x1 h) Q) : gz_Cl G mX1_toldSomewhere (d + 3) 0 0 [.ref a0, .int x1] h (gz_qi Q) := gz_cl_of (lo := [.ref a0, .int x1, .retAddr 0, .retAddr 0]) (by decide) rfl rfl (Nat.le_of_ble_eq_true rfl) (sX1_toldSomewhere_0 a0 x1 h hf)
theorem dX1_listTellings_0 : decode cX1_listTellings 0 = .ok (.iconst 0, 1) := by decide +kernel
theorem dX1_listTellings_1 : decode cX1_listTellings 1 = .ok (.istore_n 2, 1) := by decide +kernel
theorem dX1_listTellings_2 : decode cX1_listTellings 2 = .ok (.iconst 0, 1) := by decide +kernel
theorem dX1_listTellings_3 : decode cX1_listTellings 3 = .ok (.istore_n 3, 1) := by decide +kernel
theorem dX1_listTellings_4 : decode cX1_listTellings 4 = .ok (.iload_n 3, 1) := by decide +kernel
theorem dX1_listTellings_5 : decode cX1_listTellings 5 = .ok (.aload_n 0, 1) := by decide +kernel
theorem dX1_listTellings_6 : decode cX1_listTellings 6 = .ok (.getfield 32, 3) := by decide +kernel
theorem dX1_listTellings_9 : decode cX1_listTellings 9 = .ok (.if_icmp .ge 53, 3) := by decide +kernel
theorem dX1_listTellings_12 : decode cX1_listTellings 12 = .ok (.iconst 0, 1) := by decide +kernel
theorem dX1_listTellings_13 : decode cX1_listTellings 13 = .ok (.istore 4, 2) := by decide +kernel
theorem dX1_listTellings_15 : decode cX1_listTellings 15 = .ok (.iload 4, 2) := by decide +kernel
theorem dX1_listTellings_17 : decode cX1_listTellings 17 = .ok (.bipush 6, 2) := by decide +kernel
theorem dX1_listTellings_19 : decode cX1_listTellings 19 = .ok (.if_icmp .ge 37, 3) := by decide +kernel
theorem dX1_listTellings_22 : decode cX1_listTellings 22 = .ok (.aload_n 0, 1) := by decide +kernel
theorem dX1_listTellings_23 : decode cX1_listTellings 23 = .ok (.iload_n 3, 1) := by decide +kernel
theorem dX1_listTellings_24 : decode cX1_listTellings 24 = .ok (.iload 4, 2) := by decide +kernel
theorem dX1_listTellings_26 : decode cX1_listTellings 26 = .ok (.invokevirtual 107, 3) := by decide +kernel
theorem dX1_listTellings_29 : decode cX1_listTellings 29 = .ok (.istore 5, 2) := by decide +kernel
theorem dX1_listTellings_31 : decode cX1_listTellings 31 = .ok (.iload 5, 2) := by decide +kernel
theorem dX1_listTellings_33 : decode cX1_listTellings 33 = .ok (.ifCond .eq 17, 3) := by decide +kernel
theorem dX1_listTellings_36 : decode cX1_listTellings 36 = .ok (.iload_n 2, 1) := by decide +kernel
theorem dX1_listTellings_37 : decode cX1_listTellings 37 = .ok (.aload_n 1, 1) := by decide +kernel
theorem dX1_listTellings_38 : decode cX1_listTellings 38 = .ok (.arraylength, 1) := by decide +kernel
theorem dX1_listTellings_39 : decode cX1_listTellings 39 = .ok (.if_icmp .ge 11, 3) := by decide +kernel
theorem dX1_listTellings_42 : decode cX1_listTellings 42 = .ok (.aload_n 1, 1) := by decide +kernel
theorem dX1_listTellings_43 : decode cX1_listTellings 43 = .ok (.iload_n 2, 1) := by decide +kernel
theorem dX1_listTellings_44 : decode cX1_listTellings 44 = .ok (.iinc 2 1, 3) := by decide +kernel
theorem dX1_listTellings_47 : decode cX1_listTellings 47 = .ok (.iload 5, 2) := by decide +kernel
theorem dX1_listTellings_49 : decode cX1_listTellings 49 = .ok (.iastore, 1) := by decide +kernel
theorem dX1_listTellings_50 : decode cX1_listTellings 50 = .ok (.iinc 4 1, 3) := by decide +kernel
theorem dX1_listTellings_53 : decode cX1_listTellings 53 = .ok (.goto (-38), 3) := by decide +kernel
theorem dX1_listTellings_56 : decode cX1_listTellings 56 = .ok (.iinc 3 1, 3) := by decide +kernel
theorem dX1_listTellings_59 : decode cX1_listTellings 59 = .ok (.goto (-55), 3) := by decide +kernel
theorem dX1_listTellings_62 : decode cX1_listTellings 62 = .ok (.iload_n 2, 1) := by decide +kernel
theorem dX1_listTellings_63 : decode cX1_listTellings 63 = .ok (.ireturn, 1) := by decide +kernel
def fX1_listTellings_50 (k4 : Nat → Nat → Int32 → Int32 → gz_H → Option (Int32 × gz_H)) (k15 : Nat → Nat → Int32 → Int32 → Int32 → gz_H → Option (Int32 × gz_H)) (a0 : Nat) (a1 : Nat) (x2 : Int32) (x3 : Int32) (x4 : Int32) (h : gz_H) : Option (Int32 × gz_H) :=
    k15 a0 a1 x2 x3 (x4 + 1) h
set_option maxRecDepth 100000 in
set_option maxHeartbeats 1000000 in
theorem sX1_listTellings_50 {G : gz_G} {d l0 s0 : Nat} {Q : Int32 → gz_H → Prop} {k4 : Nat → Nat → Int32 → Int32 → gz_H → Option (Int32 × gz_H)} {k15 : Nat → Nat → Int32 → Int32 → Int32 → gz_H → Option (Int32 × gz_H)} (hk4 : ∀ (a0 : Nat) (a1 : Nat) (x2 : Int32) (x3 : Int32) (h : gz_H), gz_g (k4 a0 a1 x2 x3 h) Q → gz_Ok G mX1_listTellings (d + 3, l0, s0, 0, 0) 4 [.ref a0, .ref a1, .int x2, .int x3, .retAddr 0, .retAddr 0] [] h (gz_qi Q)) (hk15 : ∀ (a0 : Nat) (a1 : Nat) (x2 : Int32) (x3 : Int32) (x4 : Int32) (h : gz_H), gz_g (k15 a0 a1 x2 x3 x4 h) Q → gz_Ok G mX1_listTellings (d + 3, l0, s0, 0, 0) 15 [.ref a0, .ref a1, .int x2, .int x3, .int x4, .retAddr 0] [] h (gz_qi Q)) (a0 : Nat) (a1 : Nat) (x2 : Int32) (x3 : Int32) (x4 : Int32) (h : gz_H) (hf : gz_g (fX1_listTellings_50 k4 k15 a0 a1 x2 x3 x4 h) Q) : gz_Ok G mX1_listTellings (d + 3, l0, s0, 0, 0) 50 [.ref a0, .ref a1, .int x2, .int x3, .int x4, .retAddr 0] [] h (gz_qi Q) := by
  unfold fX1_listTellings_50 at hf
  refine gz_iinc (v := x4 + 1) (lv := [.ref a0, .ref a1, .int x2, .int x3, .int (x4 + 1), .retAddr 0]) (pc := 50) dX1_listTellings_50 rfl rfl (by decide) rfl ?_
  refine gz_goto (tgt := 15) (pc := 53) dX1_listTellings_53 rfl ?_
  exact hk15 a0 a1 x2 x3 (x4 + 1) h hf
def fX1_listTellings_15 (k4 : Nat → Nat → Int32 → Int32 → gz_H → Option (Int32 × gz_H)) : Nat → Nat → Nat → Int32 → Int32 → Int32 → gz_H → Option (Int32 × gz_H)
  | 0, _, _, _, _, _, _ => none
  | n + 1, a0, a1, x2, x3, x4, h =>
    if (6 : Int32) ≤ x4 then (
     k4 a0 a1 x2 (x3 + 1) h
    ) else (
     gz_ck (gz_sh h a0 1 4) <|
     gz_b2 (fX1_toldAt a0 x3 x4 h) fun y_3 h_2 =>
     if y_3 = 0 then (
      fX1_listTellings_50 k4 (fun z0 z1 z2 z3 z4 zh => fX1_listTellings_15 k4 n z0 z1 z2 z3 z4 zh) a0 a1 x2 x3 x4 h_2
     ) else (
      gz_bi (gz_len h_2 a1) fun y_6 =>
      if y_6 ≤ x2 then (
       fX1_listTellings_50 k4 (fun z0 z1 z2 z3 z4 zh => fX1_listTellings_15 k4 n z0 z1 z2 z3 z4 zh) a0 a1 x2 x3 x4 h_2
      ) else (
       gz_ck (gz_inb h_2 a1 10 x2) <|
       gz_lt (uI h_2 a1 x2.toNatClampNeg y_3) fun h_9 =>
       fX1_listTellings_50 k4 (fun z0 z1 z2 z3 z4 zh => fX1_listTellings_15 k4 n z0 z1 z2 z3 z4 zh) a0 a1 (x2 + 1) x3 x4 h_9
      )
     )
    )
set_option maxRecDepth 100000 in
set_option maxHeartbeats 1000000 in
theorem sX1_listTellings_15 {G : gz_G} {d l0 s0 : Nat} {Q : Int32 → gz_H → Prop} {k4 : Nat → Nat → Int32 → Int32 → gz_H → Option (Int32 × gz_H)} (hk4 : ∀ (a0 : Nat) (a1 : Nat) (x2 : Int32) (x3 : Int32) (h : gz_H), gz_g (k4 a0 a1 x2 x3 h) Q → gz_Ok G mX1_listTellings (d + 3, l0, s0, 0, 0) 4 [.ref a0, .ref a1, .int x2, .int x3, .retAddr 0, .retAddr 0] [] h (gz_qi Q)) : ∀ (n : Nat) (a0 : Nat) (a1 : Nat) (x2 : Int32) (x3 : Int32) (x4 : Int32) (h : gz_H), gz_g (fX1_listTellings_15 k4 n a0 a1 x2 x3 x4 h) Q → gz_Ok G mX1_listTellings (d + 3, l0, s0, 0, 0) 15 [.ref a0, .ref a1, .int x2, .int x3, .int x4, .retAddr 0] [] h (gz_qi Q) := by
  intro n
  induction n with
  | zero => intro a0 a1 x2 x3 x4 h hf; exact False.elim hf
  | succ n ih =>
    intro a0 a1 x2 x3 x4 h hf
    rw [fX1_listTellings_15] at hf
    refine gz_iload (pc := 15) dX1_listTellings_15 rfl ?_
    refine gz_bipush (v := (6 : Int32)) (pc := 17) dX1_listTellings_17 rfl ?_
    refine gz_icmp_ge (tgt := 56) (pc := 19) dX1_listTellings_19 rfl (fun c_1 => ?_) (fun c_1 => ?_)
    · have hf := gz_gT hf c_1
      refine gz_iinc (v := x3 + 1) (lv := [.ref a0, .ref a1, .int x2, .int (x3 + 1), .int x4, .retAddr 0]) (pc := 56) dX1_listTellings_56 rfl rfl (by decide) rfl ?_
      refine gz_goto (tgt := 4) (pc := 59) dX1_listTellings_59 rfl ?_
      refine gz_fg (lv := [.ref a0, .ref a1, .int x2, .int (x3 + 1), .retAddr 0, .retAddr 0]) ⟨Or.inr rfl, ⟨Or.inr rfl, ⟨Or.inr rfl, ⟨Or.inr rfl, ⟨Or.inl rfl, ⟨Or.inl rfl, trivial⟩⟩⟩⟩⟩⟩ ?_
      exact hk4 a0 a1 x2 (x3 + 1) h hf
    · have hf := gz_gF hf c_1
      refine gz_aload_n (pc := 22) dX1_listTellings_22 rfl rfl ?_
      refine gz_iload_n (pc := 23) dX1_listTellings_23 rfl rfl ?_
      refine gz_iload (pc := 24) dX1_listTellings_24 rfl ?_
      refine gz_gk hf (fun c_4 hf => ?_)
      refine gz_cVI (av := [.int x3, .int x4]) (st := []) (pc := 26) dX1_listTellings_26 kl_RX1_107 rfl (gz_shs c_4) rfl rfl (Nat.le_of_ble_eq_true rfl) (by show d + 0 + 2 + 1 ≤ d + 3; omega) (sX1_toldAt (d := d + 0) (gz_gc hf)) (fun y_3 h_2 hf => ?_)
      refine gz_istore (lv := [.ref a0, .ref a1, .int x2, .int x3, .int x4, .int y_3]) (pc := 29) dX1_listTellings_29 (by decide) rfl ?_
      refine gz_iload (pc := 31) dX1_listTellings_31 rfl ?_
      refine gz_if_eq (tgt := 50) (pc := 33) dX1_listTellings_33 rfl (fun c_5 => ?_) (fun c_5 => ?_)
      · have hf := gz_gT hf c_5
        refine gz_fg (lv := [.ref a0, .ref a1, .int x2, .int x3, .int x4, .retAddr 0]) ⟨Or.inr rfl, ⟨Or.inr rfl, ⟨Or.inr rfl, ⟨Or.inr rfl, ⟨Or.inr rfl, ⟨Or.inl rfl, trivial⟩⟩⟩⟩⟩⟩ ?_
        exact sX1_listTellings_50 hk4 ih a0 a1 x2 x3 x4 h_2 hf
      · have hf := gz_gF hf c_5
        refine gz_iload_n (pc := 36) dX1_listTellings_36 rfl rfl ?_
        refine gz_aload_n (pc := 37) dX1_listTellings_37 rfl rfl ?_
        refine gz_gi hf (fun y_6 ey_6 hf => ?_)
        refine gz_alen (pc := 38) dX1_listTellings_38 ey_6 ?_
        refine gz_icmp_ge (tgt := 50) (pc := 39) dX1_listTellings_39 rfl (fun c_7 => ?_) (fun c_7 => ?_)
        · have hf := gz_gT hf c_7
          refine gz_fg (lv := [.ref a0, .ref a1, .int x2, .int x3, .int x4, .retAddr 0]) ⟨Or.inr rfl, ⟨Or.inr rfl, ⟨Or.inr rfl, ⟨Or.inr rfl, ⟨Or.inr rfl, ⟨Or.inl rfl, trivial⟩⟩⟩⟩⟩⟩ ?_
          exact sX1_listTellings_50 hk4 ih a0 a1 x2 x3 x4 h_2 hf
        · have hf := gz_gF hf c_7
          refine gz_aload_n (pc := 42) dX1_listTellings_42 rfl rfl ?_
          refine gz_iload_n (pc := 43) dX1_listTellings_43 rfl rfl ?_
          refine gz_iinc (v := x2 + 1) (lv := [.ref a0, .ref a1, .int (x2 + 1), .int x3, .int x4, .int y_3]) (pc := 44) dX1_listTellings_44 rfl rfl (by decide) rfl ?_
          refine gz_iload (pc := 47) dX1_listTellings_47 rfl ?_
          refine gz_gk hf (fun c_8 hf => ?_)
          refine gz_iast (pc := 49) dX1_listTellings_49 c_8 ?_
          refine gz_nmH (fun h_9 eh_9 => ?_)
          have hf := gz_gl eh_9 hf
          refine gz_fg (lv := [.ref a0, .ref a1, .int (x2 + 1), .int x3, .int x4, .retAddr 0]) ⟨Or.inr rfl, ⟨Or.inr rfl, ⟨Or.inr rfl, ⟨Or.inr rfl, ⟨Or.inr rfl, ⟨Or.inl rfl, trivial⟩⟩⟩⟩⟩⟩ ?_
          exact sX1_listTellings_50 hk4 ih a0 a1 (x2 + 1) x3 x4 h_9 hf
def fX1_listTellings_4  : Nat → Nat → Nat → Int32 → Int32 → gz_H → Option (Int32 × gz_H)
  | 0, _, _, _, _, _ => none
  | n + 1, a0, a1, x2, x3, h =>
    gz_ck (gz_sh h a0 1 4) <|
    if (h.2.1 a0 3) ≤ x3 then (
     some (x2, h)
    ) else (
     fX1_listTellings_15 (fun z0 z1 z2 z3 zh => fX1_listTellings_4 n z0 z1 z2 z3 zh) gz_fu a0 a1 x2 x3 (0 : Int32) h
    )
set_option maxRecDepth 100000 in
set_option maxHeartbeats 1000000 in
theorem sX1_listTellings_4 {G : gz_G} {d l0 s0 : Nat} {Q : Int32 → gz_H → Prop} : ∀ (n : Nat) (a0 : Nat) (a1 : Nat) (x2 : Int32) (x3 : Int32) (h : gz_H), gz_g (fX1_listTellings_4  n a0 a1 x2 x3 h) Q → gz_Ok G mX1_listTellings (d + 3, l0, s0, 0, 0) 4 [.ref a0, .ref a1, .int x2, .int x3, .retAddr 0, .retAddr 0] [] h (gz_qi Q) := by
  intro n
  induction n with
  | zero => intro a0 a1 x2 x3 h hf; exact False.elim hf
  | succ n ih =>
    intro a0 a1 x2 x3 h hf
    rw [fX1_listTellings_4] at hf
    refine gz_iload_n (pc := 4) dX1_listTellings_4 rfl rfl ?_
    refine gz_aload_n (pc := 5) dX1_listTellings_5 rfl rfl ?_
    refine gz_gk hf (fun c_1 hf => ?_)
    refine gz_getI (pc := 6) dX1_listTellings_6 fl_RX1_32 rfl (gz_shs c_1) ?_
    refine gz_icmp_ge (tgt := 62) (pc := 9) dX1_listTellings_9 rfl (fun c_2 => ?_) (fun c_2 => ?_)
    · have hf := gz_gT hf c_2
      refine gz_iload_n (pc := 62) dX1_listTellings_62 rfl rfl ?_
      exact gz_irt (pc := 63) dX1_listTellings_63 rfl rfl hf
    · have hf := gz_gF hf c_2
      refine gz_iconst (v := (0 : Int32)) (pc := 12) dX1_listTellings_12 rfl ?_
      refine gz_istore (lv := [.ref a0, .ref a1, .int x2, .int x3, .int (0 : Int32), .retAddr 0]) (pc := 13) dX1_listTellings_13 (by decide) rfl ?_
      exact sX1_listTellings_15 ih gz_fu a0 a1 x2 x3 (0 : Int32) h hf
def fX1_listTellings_0  (a0 : Nat) (a1 : Nat) (h : gz_H) : Option (Int32 × gz_H) :=
    fX1_listTellings_4 gz_fu a0 a1 (0 : Int32) (0 : Int32) h
set_option maxRecDepth 100000 in
set_option maxHeartbeats 1000000 in
theorem sX1_listTellings_0 {G : gz_G} {d l0 s0 : Nat} {Q : Int32 → gz_H → Prop} (a0 : Nat) (a1 : Nat) (h : gz_H) (hf : gz_g (fX1_listTellings_0  a0 a1 h) Q) : gz_Ok G mX1_listTellings (d + 3, l0, s0, 0, 0) 0 [.ref a0, .ref a1, .retAddr 0, .retAddr 0, .retAddr 0, .retAddr 0] [] h (gz_qi Q) := by
  unfold fX1_listTellings_0 at hf
  refine gz_iconst (v := (0 : Int32)) (pc := 0) dX1_listTellings_0 rfl ?_
  refine gz_istore_n (lv := [.ref a0, .ref a1, .int (0 : Int32), .retAddr 0, .retAddr 0, .retAddr 0]) (pc := 1) dX1_listTellings_1 rfl (by decide) rfl ?_
  refine gz_iconst (v := (0 : Int32)) (pc := 2) dX1_listTellings_2 rfl ?_
  refine gz_istore_n (lv := [.ref a0, .ref a1, .int (0 : Int32), .int (0 : Int32), .retAddr 0, .retAddr 0]) (pc := 3) dX1_listTellings_3 rfl (by decide) rfl ?_
  exact sX1_listTellings_4 gz_fu a0 a1 (0 : Int32) (0 : Int32) h hf
def fX1_listTellings (a0 : Nat) (a1 : Nat) (h : gz_H) : Option (Int32 × gz_H) := fX1_listTellings_0 a0 a1 h
theorem sX1_listTellings {G : gz_G} {d : Nat} {a0 : Nat} {a1 : Nat} {h : gz_H} {Q : Int32 → gz_H → Prop} (hf : gz_g (fX1_listTellings a0 a1 h) Q) : gz_Cl G mX1_listTellings (d + 3) 0 0 [.ref a0, .ref a1] h (gz_qi Q) := gz_cl_of (lo := [.ref a0, .ref a1, .retAddr 0, .retAddr 0, .retAddr 0, .retAddr 0]) (by decide) rfl rfl (Nat.le_of_ble_eq_true rfl) (sX1_listTellings_0 a0 a1 h hf)
theorem dX1_placesWithTelling_0 : decode cX1_placesWithTelling 0 = .ok (.iconst 0, 1) := by decide +kernel
theorem dX1_placesWithTelling_1 : decode cX1_placesWithTelling 1 = .ok (.istore_n 2, 1) := by decide +kernel
theorem dX1_placesWithTelling_2 : decode cX1_placesWithTelling 2 = .ok (.iconst 0, 1) := by decide +kernel
theorem dX1_placesWithTelling_3 : decode cX1_placesWithTelling 3 = .ok (.istore_n 3, 1) := by decide +kernel
theorem dX1_placesWithTelling_4 : decode cX1_placesWithTelling 4 = .ok (.iload_n 3, 1) := by decide +kernel
theorem dX1_placesWithTelling_5 : decode cX1_placesWithTelling 5 = .ok (.bipush 6, 2) := by decide +kernel
theorem dX1_placesWithTelling_7 : decode cX1_placesWithTelling 7 = .ok (.if_icmp .ge 21, 3) := by decide +kernel
theorem dX1_placesWithTelling_10 : decode cX1_placesWithTelling 10 = .ok (.aload_n 0, 1) := by decide +kernel
theorem dX1_placesWithTelling_11 : decode cX1_placesWithTelling 11 = .ok (.iload_n 1, 1) := by decide +kernel
theorem dX1_placesWithTelling_12 : decode cX1_placesWithTelling 12 = .ok (.iload_n 3, 1) := by decide +kernel
theorem dX1_placesWithTelling_13 : decode cX1_placesWithTelling 13 = .ok (.invokevirtual 107, 3) := by decide +kernel
theorem dX1_placesWithTelling_16 : decode cX1_placesWithTelling 16 = .ok (.ifCond .eq 6, 3) := by decide +kernel
theorem dX1_placesWithTelling_19 : decode cX1_placesWithTelling 19 = .ok (.iinc 2 1, 3) := by decide +kernel
theorem dX1_placesWithTelling_22 : decode cX1_placesWithTelling 22 = .ok (.iinc 3 1, 3) := by decide +kernel
theorem dX1_placesWithTelling_25 : decode cX1_placesWithTelling 25 = .ok (.goto (-21), 3) := by decide +kernel
theorem dX1_placesWithTelling_28 : decode cX1_placesWithTelling 28 = .ok (.iload_n 2, 1) := by decide +kernel
theorem dX1_placesWithTelling_29 : decode cX1_placesWithTelling 29 = .ok (.ireturn, 1) := by decide +kernel
def fX1_placesWithTelling_22 (k4 : Nat → Int32 → Int32 → Int32 → gz_H → Option (Int32 × gz_H)) (a0 : Nat) (x1 : Int32) (x2 : Int32) (x3 : Int32) (h : gz_H) : Option (Int32 × gz_H) :=
    k4 a0 x1 x2 (x3 + 1) h
set_option maxRecDepth 100000 in
set_option maxHeartbeats 1000000 in
theorem sX1_placesWithTelling_22 {G : gz_G} {d l0 s0 : Nat} {Q : Int32 → gz_H → Prop} {k4 : Nat → Int32 → Int32 → Int32 → gz_H → Option (Int32 × gz_H)} (hk4 : ∀ (a0 : Nat) (x1 : Int32) (x2 : Int32) (x3 : Int32) (h : gz_H), gz_g (k4 a0 x1 x2 x3 h) Q → gz_Ok G mX1_placesWithTelling (d + 3, l0, s0, 0, 0) 4 [.ref a0, .int x1, .int x2, .int x3] [] h (gz_qi Q)) (a0 : Nat) (x1 : Int32) (x2 : Int32) (x3 : Int32) (h : gz_H) (hf : gz_g (fX1_placesWithTelling_22 k4 a0 x1 x2 x3 h) Q) : gz_Ok G mX1_placesWithTelling (d + 3, l0, s0, 0, 0) 22 [.ref a0, .int x1, .int x2, .int x3] [] h (gz_qi Q) := by
  unfold fX1_placesWithTelling_22 at hf
  refine gz_iinc (v := x3 + 1) (lv := [.ref a0, .int x1, .int x2, .int (x3 + 1)]) (pc := 22) dX1_placesWithTelling_22 rfl rfl (by decide) rfl ?_
  refine gz_goto (tgt := 4) (pc := 25) dX1_placesWithTelling_25 rfl ?_
  exact hk4 a0 x1 x2 (x3 + 1) h hf
def fX1_placesWithTelling_4  : Nat → Nat → Int32 → Int32 → Int32 → gz_H → Option (Int32 × gz_H)
  | 0, _, _, _, _, _ => none
  | n + 1, a0, x1, x2, x3, h =>
    if (6 : Int32) ≤ x3 then (
     some (x2, h)
    ) else (
     gz_ck (gz_sh h a0 1 4) <|
     gz_b2 (fX1_toldAt a0 x1 x3 h) fun y_3 h_2 =>
     if y_3 = 0 then (
      fX1_placesWithTelling_22 (fun z0 z1 z2 z3 zh => fX1_placesWithTelling_4 n z0 z1 z2 z3 zh) a0 x1 x2 x3 h_2
     ) else (
      fX1_placesWithTelling_22 (fun z0 z1 z2 z3 zh => fX1_placesWithTelling_4 n z0 z1 z2 z3 zh) a0 x1 (x2 + 1) x3 h_2
     )
    )
set_option maxRecDepth 100000 in
set_option maxHeartbeats 1000000 in
theorem sX1_placesWithTelling_4 {G : gz_G} {d l0 s0 : Nat} {Q : Int32 → gz_H → Prop} : ∀ (n : Nat) (a0 : Nat) (x1 : Int32) (x2 : Int32) (x3 : Int32) (h : gz_H), gz_g (fX1_placesWithTelling_4  n a0 x1 x2 x3 h) Q → gz_Ok G mX1_placesWithTelling (d + 3, l0, s0, 0, 0) 4 [.ref a0, .int x1, .int x2, .int x3] [] h (gz_qi Q) := by
  intro n
  induction n with
  | zero => intro a0 x1 x2 x3 h hf; exact False.elim hf
  | succ n ih =>
    intro a0 x1 x2 x3 h hf
    rw [fX1_placesWithTelling_4] at hf
    refine gz_iload_n (pc := 4) dX1_placesWithTelling_4 rfl rfl ?_
    refine gz_bipush (v := (6 : Int32)) (pc := 5) dX1_placesWithTelling_5 rfl ?_
    refine gz_icmp_ge (tgt := 28) (pc := 7) dX1_placesWithTelling_7 rfl (fun c_1 => ?_) (fun c_1 => ?_)
    · have hf := gz_gT hf c_1
      refine gz_iload_n (pc := 28) dX1_placesWithTelling_28 rfl rfl ?_
      exact gz_irt (pc := 29) dX1_placesWithTelling_29 rfl rfl hf
    · have hf := gz_gF hf c_1
      refine gz_aload_n (pc := 10) dX1_placesWithTelling_10 rfl rfl ?_
      refine gz_iload_n (pc := 11) dX1_placesWithTelling_11 rfl rfl ?_
      refine gz_iload_n (pc := 12) dX1_placesWithTelling_12 rfl rfl ?_
      refine gz_gk hf (fun c_4 hf => ?_)
      refine gz_cVI (av := [.int x1, .int x3]) (st := []) (pc := 13) dX1_placesWithTelling_13 kl_RX1_107 rfl (gz_shs c_4) rfl rfl (Nat.le_of_ble_eq_true rfl) (by show d + 0 + 2 + 1 ≤ d + 3; omega) (sX1_toldAt (d := d + 0) (gz_gc hf)) (fun y_3 h_2 hf => ?_)
      refine gz_if_eq (tgt := 22) (pc := 16) dX1_placesWithTelling_16 rfl (fun c_5 => ?_) (fun c_5 => ?_)
      · have hf := gz_gT hf c_5
        exact sX1_placesWithTelling_22 ih a0 x1 x2 x3 h_2 hf
      · have hf := gz_gF hf c_5
        refine gz_iinc (v := x2 + 1) (lv := [.ref a0, .int x1, .int (x2 + 1), .int x3]) (pc := 19) dX1_placesWithTelling_19 rfl rfl (by decide) rfl ?_
        exact sX1_placesWithTelling_22 ih a0 x1 (x2 + 1) x3 h_2 hf
def fX1_placesWithTelling_0  (a0 : Nat) (x1 : Int32) (h : gz_H) : Option (Int32 × gz_H) :=
    fX1_placesWithTelling_4 gz_fu a0 x1 (0 : Int32) (0 : Int32) h
set_option maxRecDepth 100000 in
set_option maxHeartbeats 1000000 in
theorem sX1_placesWithTelling_0 {G : gz_G} {d l0 s0 : Nat} {Q : Int32 → gz_H → Prop} (a0 : Nat) (x1 : Int32) (h : gz_H) (hf : gz_g (fX1_placesWithTelling_0  a0 x1 h) Q) : gz_Ok G mX1_placesWithTelling (d + 3, l0, s0, 0, 0) 0 [.ref a0, .int x1, .retAddr 0, .retAddr 0] [] h (gz_qi Q) := by
  unfold fX1_placesWithTelling_0 at hf
  refine gz_iconst (v := (0 : Int32)) (pc := 0) dX1_placesWithTelling_0 rfl ?_
  refine gz_istore_n (lv := [.ref a0, .int x1, .int (0 : Int32), .retAddr 0]) (pc := 1) dX1_placesWithTelling_1 rfl (by decide) rfl ?_
  refine gz_iconst (v := (0 : Int32)) (pc := 2) dX1_placesWithTelling_2 rfl ?_
  refine gz_istore_n (lv := [.ref a0, .int x1, .int (0 : Int32), .int (0 : Int32)]) (pc := 3) dX1_placesWithTelling_3 rfl (by decide) rfl ?_
  exact sX1_placesWithTelling_4 gz_fu a0 x1 (0 : Int32) (0 : Int32) h hf
def fX1_placesWithTelling (a0 : Nat) (x1 : Int32) (h : gz_H) : Option (Int32 × gz_H) := fX1_placesWithTelling_0 a0 x1 h
theorem sX1_placesWithTelling {G : gz_G} {d : Nat} {a0 : Nat} {x1 : Int32} {h : gz_H} {Q : Int32 → gz_H → Prop} (hf : gz_g (fX1_placesWithTelling a0 x1 h) Q) : gz_Cl G mX1_placesWithTelling (d + 3) 0 0 [.ref a0, .int x1] h (gz_qi Q) := gz_cl_of (lo := [.ref a0, .int x1, .retAddr 0, .retAddr 0]) (by decide) rfl rfl (Nat.le_of_ble_eq_true rfl) (sX1_placesWithTelling_0 a0 x1 h hf)
theorem dX1_toldTwice_0 : decode cX1_toldTwice 0 = .ok (.iconst 0, 1) := by decide +kernel
theorem dX1_toldTwice_1 : decode cX1_toldTwice 1 = .ok (.istore_n 2, 1) := by decide +kernel
theorem dX1_toldTwice_2 : decode cX1_toldTwice 2 = .ok (.iconst 0, 1) := by decide +kernel
theorem dX1_toldTwice_3 : decode cX1_toldTwice 3 = .ok (.istore_n 3, 1) := by decide +kernel
theorem dX1_toldTwice_4 : decode cX1_toldTwice 4 = .ok (.iconst 0, 1) := by decide +kernel
theorem dX1_toldTwice_5 : decode cX1_toldTwice 5 = .ok (.istore 4, 2) := by decide +kernel
theorem dX1_toldTwice_7 : decode cX1_toldTwice 7 = .ok (.iload 4, 2) := by decide +kernel
theorem dX1_toldTwice_9 : decode cX1_toldTwice 9 = .ok (.bipush 6, 2) := by decide +kernel
theorem dX1_toldTwice_11 : decode cX1_toldTwice 11 = .ok (.if_icmp .ge 30, 3) := by decide +kernel
theorem dX1_toldTwice_14 : decode cX1_toldTwice 14 = .ok (.aload_n 0, 1) := by decide +kernel
theorem dX1_toldTwice_15 : decode cX1_toldTwice 15 = .ok (.iload_n 1, 1) := by decide +kernel
theorem dX1_toldTwice_16 : decode cX1_toldTwice 16 = .ok (.iload 4, 2) := by decide +kernel
theorem dX1_toldTwice_18 : decode cX1_toldTwice 18 = .ok (.invokevirtual 107, 3) := by decide +kernel
theorem dX1_toldTwice_21 : decode cX1_toldTwice 21 = .ok (.istore 5, 2) := by decide +kernel
theorem dX1_toldTwice_23 : decode cX1_toldTwice 23 = .ok (.iload_n 3, 1) := by decide +kernel
theorem dX1_toldTwice_24 : decode cX1_toldTwice 24 = .ok (.iload_n 2, 1) := by decide +kernel
theorem dX1_toldTwice_25 : decode cX1_toldTwice 25 = .ok (.iload 5, 2) := by decide +kernel
theorem dX1_toldTwice_27 : decode cX1_toldTwice 27 = .ok (.iand, 1) := by decide +kernel
theorem dX1_toldTwice_28 : decode cX1_toldTwice 28 = .ok (.ior, 1) := by decide +kernel
theorem dX1_toldTwice_29 : decode cX1_toldTwice 29 = .ok (.istore_n 3, 1) := by decide +kernel
theorem dX1_toldTwice_30 : decode cX1_toldTwice 30 = .ok (.iload_n 2, 1) := by decide +kernel
theorem dX1_toldTwice_31 : decode cX1_toldTwice 31 = .ok (.iload 5, 2) := by decide +kernel
theorem dX1_toldTwice_33 : decode cX1_toldTwice 33 = .ok (.ior, 1) := by decide +kernel
theorem dX1_toldTwice_34 : decode cX1_toldTwice 34 = .ok (.istore_n 2, 1) := by decide +kernel
theorem dX1_toldTwice_35 : decode cX1_toldTwice 35 = .ok (.iinc 4 1, 3) := by decide +kernel
theorem dX1_toldTwice_38 : decode cX1_toldTwice 38 = .ok (.goto (-31), 3) := by decide +kernel
theorem dX1_toldTwice_41 : decode cX1_toldTwice 41 = .ok (.iload_n 3, 1) := by decide +kernel
theorem dX1_toldTwice_42 : decode cX1_toldTwice 42 = .ok (.invokestatic 47, 3) := by decide +kernel
theorem dX1_toldTwice_45 : decode cX1_toldTwice 45 = .ok (.ireturn, 1) := by decide +kernel
def fX1_toldTwice_7  : Nat → Nat → Int32 → Int32 → Int32 → Int32 → gz_H → Option (Int32 × gz_H)
  | 0, _, _, _, _, _, _ => none
  | n + 1, a0, x1, x2, x3, x4, h =>
    if (6 : Int32) ≤ x4 then (
     gz_b2 (fJ6_bitCount_0f7a4 x3 h) fun y_3 h_2 =>
     some (y_3, h_2)
    ) else (
     gz_ck (gz_sh h a0 1 4) <|
     gz_b2 (fX1_toldAt a0 x1 x4 h) fun y_5 h_4 =>
     fX1_toldTwice_7 n a0 x1 (x2 ||| y_5) (x3 ||| (x2 &&& y_5)) (x4 + 1) h_4
    )
set_option maxRecDepth 100000 in
set_option maxHeartbeats 1000000 in
theorem sX1_toldTwice_7 {G : gz_G} {d l0 s0 : Nat} {Q : Int32 → gz_H → Prop} : ∀ (n : Nat) (a0 : Nat) (x1 : Int32) (x2 : Int32) (x3 : Int32) (x4 : Int32) (h : gz_H), gz_g (fX1_toldTwice_7  n a0 x1 x2 x3 x4 h) Q → gz_Ok G mX1_toldTwice (d + 3, l0, s0, 0, 0) 7 [.ref a0, .int x1, .int x2, .int x3, .int x4, .retAddr 0] [] h (gz_qi Q) := by
  intro n
  induction n with
  | zero => intro a0 x1 x2 x3 x4 h hf; exact False.elim hf
  | succ n ih =>
    intro a0 x1 x2 x3 x4 h hf
    rw [fX1_toldTwice_7] at hf
    refine gz_iload (pc := 7) dX1_toldTwice_7 rfl ?_
    refine gz_bipush (v := (6 : Int32)) (pc := 9) dX1_toldTwice_9 rfl ?_
    refine gz_icmp_ge (tgt := 41) (pc := 11) dX1_toldTwice_11 rfl (fun c_1 => ?_) (fun c_1 => ?_)
    · have hf := gz_gT hf c_1
      refine gz_iload_n (pc := 41) dX1_toldTwice_41 rfl rfl ?_
      refine gz_cSI (av := [.int x3]) (st := []) (pc := 42) dX1_toldTwice_42 kl_RX1_47 rfl rfl (Nat.le_of_ble_eq_true rfl) (by show d + 2 + 0 + 1 ≤ d + 3; omega) (sJ6_bitCount_0f7a4 (d := d + 2) (gz_gc hf)) (fun y_3 h_2 hf => ?_)
      exact gz_irt (pc := 45) dX1_toldTwice_45 rfl rfl hf
    · have hf := gz_gF hf c_1
      refine gz_aload_n (pc := 14) dX1_toldTwice_14 rfl rfl ?_
      refine gz_iload_n (pc := 15) dX1_toldTwice_15 rfl rfl ?_
      refine gz_iload (pc := 16) dX1_toldTwice_16 rfl ?_
      refine gz_gk hf (fun c_6 hf => ?_)
      refine gz_cVI (av := [.int x1, .int x4]) (st := []) (pc := 18) dX1_toldTwice_18 kl_RX1_107 rfl (gz_shs c_6) rfl rfl (Nat.le_of_ble_eq_true rfl) (by show d + 0 + 2 + 1 ≤ d + 3; omega) (sX1_toldAt (d := d + 0) (gz_gc hf)) (fun y_5 h_4 hf => ?_)
      refine gz_istore (lv := [.ref a0, .int x1, .int x2, .int x3, .int x4, .int y_5]) (pc := 21) dX1_toldTwice_21 (by decide) rfl ?_
      refine gz_iload_n (pc := 23) dX1_toldTwice_23 rfl rfl ?_
      refine gz_iload_n (pc := 24) dX1_toldTwice_24 rfl rfl ?_
      refine gz_iload (pc := 25) dX1_toldTwice_25 rfl ?_
      refine gz_iand (pc := 27) dX1_toldTwice_27 ?_
      refine gz_ior (pc := 28) dX1_toldTwice_28 ?_
      refine gz_istore_n (lv := [.ref a0, .int x1, .int x2, .int (x3 ||| (x2 &&& y_5)), .int x4, .int y_5]) (pc := 29) dX1_toldTwice_29 rfl (by decide) rfl ?_
      refine gz_iload_n (pc := 30) dX1_toldTwice_30 rfl rfl ?_
      refine gz_iload (pc := 31) dX1_toldTwice_31 rfl ?_
      refine gz_ior (pc := 33) dX1_toldTwice_33 ?_
      refine gz_istore_n (lv := [.ref a0, .int x1, .int (x2 ||| y_5), .int (x3 ||| (x2 &&& y_5)), .int x4, .int y_5]) (pc := 34) dX1_toldTwice_34 rfl (by decide) rfl ?_
      refine gz_iinc (v := x4 + 1) (lv := [.ref a0, .int x1, .int (x2 ||| y_5), .int (x3 ||| (x2 &&& y_5)), .int (x4 + 1), .int y_5]) (pc := 35) dX1_toldTwice_35 rfl rfl (by decide) rfl ?_
      refine gz_goto (tgt := 7) (pc := 38) dX1_toldTwice_38 rfl ?_
      refine gz_fg (lv := [.ref a0, .int x1, .int (x2 ||| y_5), .int (x3 ||| (x2 &&& y_5)), .int (x4 + 1), .retAddr 0]) ⟨Or.inr rfl, ⟨Or.inr rfl, ⟨Or.inr rfl, ⟨Or.inr rfl, ⟨Or.inr rfl, ⟨Or.inl rfl, trivial⟩⟩⟩⟩⟩⟩ ?_
      exact ih a0 x1 (x2 ||| y_5) (x3 ||| (x2 &&& y_5)) (x4 + 1) h_4 hf
def fX1_toldTwice_0  (a0 : Nat) (x1 : Int32) (h : gz_H) : Option (Int32 × gz_H) :=
    fX1_toldTwice_7 gz_fu a0 x1 (0 : Int32) (0 : Int32) (0 : Int32) h
set_option maxRecDepth 100000 in
set_option maxHeartbeats 1000000 in
theorem sX1_toldTwice_0 {G : gz_G} {d l0 s0 : Nat} {Q : Int32 → gz_H → Prop} (a0 : Nat) (x1 : Int32) (h : gz_H) (hf : gz_g (fX1_toldTwice_0  a0 x1 h) Q) : gz_Ok G mX1_toldTwice (d + 3, l0, s0, 0, 0) 0 [.ref a0, .int x1, .retAddr 0, .retAddr 0, .retAddr 0, .retAddr 0] [] h (gz_qi Q) := by
  unfold fX1_toldTwice_0 at hf
  refine gz_iconst (v := (0 : Int32)) (pc := 0) dX1_toldTwice_0 rfl ?_
  refine gz_istore_n (lv := [.ref a0, .int x1, .int (0 : Int32), .retAddr 0, .retAddr 0, .retAddr 0]) (pc := 1) dX1_toldTwice_1 rfl (by decide) rfl ?_
  refine gz_iconst (v := (0 : Int32)) (pc := 2) dX1_toldTwice_2 rfl ?_
  refine gz_istore_n (lv := [.ref a0, .int x1, .int (0 : Int32), .int (0 : Int32), .retAddr 0, .retAddr 0]) (pc := 3) dX1_toldTwice_3 rfl (by decide) rfl ?_
  refine gz_iconst (v := (0 : Int32)) (pc := 4) dX1_toldTwice_4 rfl ?_
  refine gz_istore (lv := [.ref a0, .int x1, .int (0 : Int32), .int (0 : Int32), .int (0 : Int32), .retAddr 0]) (pc := 5) dX1_toldTwice_5 (by decide) rfl ?_
  exact sX1_toldTwice_7 gz_fu a0 x1 (0 : Int32) (0 : Int32) (0 : Int32) h hf
def fX1_toldTwice (a0 : Nat) (x1 : Int32) (h : gz_H) : Option (Int32 × gz_H) := fX1_toldTwice_0 a0 x1 h
theorem sX1_toldTwice {G : gz_G} {d : Nat} {a0 : Nat} {x1 : Int32} {h : gz_H} {Q : Int32 → gz_H → Prop} (hf : gz_g (fX1_toldTwice a0 x1 h) Q) : gz_Cl G mX1_toldTwice (d + 3) 0 0 [.ref a0, .int x1] h (gz_qi Q) := gz_cl_of (lo := [.ref a0, .int x1, .retAddr 0, .retAddr 0, .retAddr 0, .retAddr 0]) (by decide) rfl rfl (Nat.le_of_ble_eq_true rfl) (sX1_toldTwice_0 a0 x1 h hf)
theorem dX2_room_0 : decode cX2_room 0 = .ok (.aload_n 0, 1) := by decide +kernel
theorem dX2_room_1 : decode cX2_room 1 = .ok (.getfield 28, 3) := by decide +kernel
theorem dX2_room_4 : decode cX2_room 4 = .ok (.ifCond .eq 7, 3) := by decide +kernel
theorem dX2_room_7 : decode cX2_room 7 = .ok (.iconst 0, 1) := by decide +kernel
theorem dX2_room_8 : decode cX2_room 8 = .ok (.goto 12, 3) := by decide +kernel
theorem dX2_room_11 : decode cX2_room 11 = .ok (.aload_n 0, 1) := by decide +kernel
theorem dX2_room_12 : decode cX2_room 12 = .ok (.getfield 19, 3) := by decide +kernel
theorem dX2_room_15 : decode cX2_room 15 = .ok (.aload_n 0, 1) := by decide +kernel
theorem dX2_room_16 : decode cX2_room 16 = .ok (.getfield 25, 3) := by decide +kernel
theorem dX2_room_19 : decode cX2_room 19 = .ok (.isub, 1) := by decide +kernel
theorem dX2_room_20 : decode cX2_room 20 = .ok (.ireturn, 1) := by decide +kernel
def fX2_room_0  (a0 : Nat) (h : gz_H) : Option (Int32 × gz_H) :=
    gz_ck (gz_sh h a0 2 6) <|
    if (h.2.1 a0 5) = 0 then (
     some ((h.2.1 a0 3) - (h.2.1 a0 1), h)
    ) else (
     some ((0 : Int32), h)
    )
set_option maxRecDepth 100000 in
set_option maxHeartbeats 1000000 in
theorem sX2_room_0 {G : gz_G} {d l0 s0 : Nat} {Q : Int32 → gz_H → Prop} (a0 : Nat) (h : gz_H) (hf : gz_g (fX2_room_0  a0 h) Q) : gz_Ok G mX2_room (d + 0, l0, s0, 0, 0) 0 [.ref a0] [] h (gz_qi Q) := by
  unfold fX2_room_0 at hf
  refine gz_aload_n (pc := 0) dX2_room_0 rfl rfl ?_
  refine gz_gk hf (fun c_1 hf => ?_)
  refine gz_getI (pc := 1) dX2_room_1 fl_RX2_28 rfl (gz_shs c_1) ?_
  refine gz_if_eq (tgt := 11) (pc := 4) dX2_room_4 rfl (fun c_2 => ?_) (fun c_2 => ?_)
  · have hf := gz_gT hf c_2
    refine gz_aload_n (pc := 11) dX2_room_11 rfl rfl ?_
    refine gz_getI (pc := 12) dX2_room_12 fl_RX2_19 rfl (gz_shs c_1) ?_
    refine gz_aload_n (pc := 15) dX2_room_15 rfl rfl ?_
    refine gz_getI (pc := 16) dX2_room_16 fl_RX2_25 rfl (gz_shs c_1) ?_
    refine gz_isub (pc := 19) dX2_room_19 ?_
    exact gz_irt (pc := 20) dX2_room_20 rfl rfl hf
  · have hf := gz_gF hf c_2
    refine gz_iconst (v := (0 : Int32)) (pc := 7) dX2_room_7 rfl ?_
    refine gz_goto (tgt := 20) (pc := 8) dX2_room_8 rfl ?_
    exact gz_irt (pc := 20) dX2_room_20 rfl rfl hf
def fX2_room (a0 : Nat) (h : gz_H) : Option (Int32 × gz_H) := fX2_room_0 a0 h
theorem sX2_room {G : gz_G} {d : Nat} {a0 : Nat} {h : gz_H} {Q : Int32 → gz_H → Prop} (hf : gz_g (fX2_room a0 h) Q) : gz_Cl G mX2_room (d + 0) 0 0 [.ref a0] h (gz_qi Q) := gz_cl_of (lo := [.ref a0]) (by decide) rfl rfl (Nat.le_of_ble_eq_true rfl) (sX2_room_0 a0 h hf)
theorem dX1_markOf_0 : decode cX1_markOf 0 = .ok (.aload_n 0, 1) := by decide +kernel
theorem dX1_markOf_1 : decode cX1_markOf 1 = .ok (.getfield 17, 3) := by decide +kernel
theorem dX1_markOf_4 : decode cX1_markOf 4 = .ok (.iload_n 1, 1) := by decide +kernel
theorem dX1_markOf_5 : decode cX1_markOf 5 = .ok (.aaload, 1) := by decide +kernel
theorem dX1_markOf_6 : decode cX1_markOf 6 = .ok (.astore_n 3, 1) := by decide +kernel
theorem dX1_markOf_7 : decode cX1_markOf 7 = .ok (.iload_n 2, 1) := by decide +kernel
theorem dX1_markOf_8 : decode cX1_markOf 8 = .ok (.tableswitch 65 1 4 #[32, 38, 44, 49], 32) := by decide +kernel
theorem dX1_markOf_40 : decode cX1_markOf 40 = .ok (.aload_n 0, 1) := by decide +kernel
theorem dX1_markOf_41 : decode cX1_markOf 41 = .ok (.iload_n 1, 1) := by decide +kernel
theorem dX1_markOf_42 : decode cX1_markOf 42 = .ok (.invokevirtual 110, 3) := by decide +kernel
theorem dX1_markOf_45 : decode cX1_markOf 45 = .ok (.ireturn, 1) := by decide +kernel
theorem dX1_markOf_46 : decode cX1_markOf 46 = .ok (.aload_n 0, 1) := by decide +kernel
theorem dX1_markOf_47 : decode cX1_markOf 47 = .ok (.iload_n 1, 1) := by decide +kernel
theorem dX1_markOf_48 : decode cX1_markOf 48 = .ok (.invokevirtual 113, 3) := by decide +kernel
theorem dX1_markOf_51 : decode cX1_markOf 51 = .ok (.ireturn, 1) := by decide +kernel
theorem dX1_markOf_52 : decode cX1_markOf 52 = .ok (.aload_n 3, 1) := by decide +kernel
theorem dX1_markOf_53 : decode cX1_markOf 53 = .ok (.invokevirtual 116, 3) := by decide +kernel
theorem dX1_markOf_56 : decode cX1_markOf 56 = .ok (.ireturn, 1) := by decide +kernel
theorem dX1_markOf_57 : decode cX1_markOf 57 = .ok (.aload_n 3, 1) := by decide +kernel
theorem dX1_markOf_58 : decode cX1_markOf 58 = .ok (.invokevirtual 90, 3) := by decide +kernel
theorem dX1_markOf_61 : decode cX1_markOf 61 = .ok (.aload_n 0, 1) := by decide +kernel
theorem dX1_markOf_62 : decode cX1_markOf 62 = .ok (.iload_n 1, 1) := by decide +kernel
theorem dX1_markOf_63 : decode cX1_markOf 63 = .ok (.invokevirtual 119, 3) := by decide +kernel
theorem dX1_markOf_66 : decode cX1_markOf 66 = .ok (.iconst (-1), 1) := by decide +kernel
theorem dX1_markOf_67 : decode cX1_markOf 67 = .ok (.ixor, 1) := by decide +kernel
theorem dX1_markOf_68 : decode cX1_markOf 68 = .ok (.iand, 1) := by decide +kernel
theorem dX1_markOf_69 : decode cX1_markOf 69 = .ok (.invokestatic 47, 3) := by decide +kernel
theorem dX1_markOf_72 : decode cX1_markOf 72 = .ok (.ireturn, 1) := by decide +kernel
theorem dX1_markOf_73 : decode cX1_markOf 73 = .ok (.aload_n 0, 1) := by decide +kernel
theorem dX1_markOf_74 : decode cX1_markOf 74 = .ok (.iload_n 1, 1) := by decide +kernel
theorem dX1_markOf_75 : decode cX1_markOf 75 = .ok (.invokevirtual 122, 3) := by decide +kernel
theorem dX1_markOf_78 : decode cX1_markOf 78 = .ok (.invokestatic 47, 3) := by decide +kernel
theorem dX1_markOf_81 : decode cX1_markOf 81 = .ok (.ireturn, 1) := by decide +kernel
def fX1_markOf_0  (a0 : Nat) (x1 : Int32) (x2 : Int32) (h : gz_H) : Option (Int32 × gz_H) :=
    gz_ck (gz_sh h a0 1 4) <|
    gz_br (h.2.2.2 a0 1) fun r_2 =>
    gz_ck (gz_inb h r_2 11 x1) <|
    gz_br (h.2.2.2 r_2 x1.toNatClampNeg) fun r_4 =>
    if x2 = (1 : Int32) then (
     gz_b2 (fX1_placesWithTelling a0 x1 h) fun y_7 h_6 =>
     some (y_7, h_6)
    ) else (
    if x2 = (2 : Int32) then (
     gz_b2 (fX1_toldTwice a0 x1 h) fun y_10 h_9 =>
     some (y_10, h_9)
    ) else (
    if x2 = (3 : Int32) then (
     gz_ck (gz_sh h r_4 2 6) <|
     gz_b2 (fX2_room r_4 h) fun y_13 h_12 =>
     some (y_13, h_12)
    ) else (
    if x2 = (4 : Int32) then (
     gz_ck (gz_sh h r_4 2 6) <|
     gz_b2 (fX2_set r_4 h) fun y_17 h_16 =>
     gz_ck (gz_sh h_16 a0 1 4) <|
     gz_b2 (fX1_toldSomewhere a0 x1 h_16) fun y_20 h_19 =>
     gz_b2 (fJ6_bitCount_0f7a4 (y_17 &&& (y_20 ^^^ (-1 : Int32))) h_19) fun y_23 h_22 =>
     some (y_23, h_22)
    ) else (
    gz_b2 (fX1_heldOnlyBy a0 x1 h) fun y_25 h_24 =>
    gz_b2 (fJ6_bitCount_0f7a4 y_25 h_24) fun y_27 h_26 =>
    some (y_27, h_26)
    ))))
set_option maxRecDepth 100000 in
set_option maxHeartbeats 1000000 in
theorem sX1_markOf_0 {G : gz_G} {d l0 s0 : Nat} {Q : Int32 → gz_H → Prop} (a0 : Nat) (x1 : Int32) (x2 : Int32) (h : gz_H) (hf : gz_g (fX1_markOf_0  a0 x1 x2 h) Q) : gz_Ok G mX1_markOf (d + 4, l0, s0, 0, 0) 0 [.ref a0, .int x1, .int x2, .retAddr 0] [] h (gz_qi Q) := by
  unfold fX1_markOf_0 at hf
  refine gz_aload_n (pc := 0) dX1_markOf_0 rfl rfl ?_
  refine gz_gk hf (fun c_1 hf => ?_)
  refine gz_gb hf (fun r_2 er_2 hf => ?_)
  refine gz_getR (pc := 1) dX1_markOf_1 fl_RX1_17 rfl (gz_shs c_1) er_2 ?_
  refine gz_iload_n (pc := 4) dX1_markOf_4 rfl rfl ?_
  refine gz_gk hf (fun c_3 hf => ?_)
  refine gz_gb hf (fun r_4 er_4 hf => ?_)
  refine gz_aald (Or.inl rfl) (pc := 5) dX1_markOf_5 c_3 er_4 ?_
  refine gz_astore_n (lv := [.ref a0, .int x1, .int x2, .ref r_4]) (pc := 6) dX1_markOf_6 rfl (by decide) rfl ?_
  refine gz_iload_n (pc := 7) dX1_markOf_7 rfl rfl ?_
  by_cases c_5 : x2 = (1 : Int32)
  · have hf := gz_gT hf c_5
    refine gz_tIn (off := 32) (tgt := 40) (pc := 8) dX1_markOf_8 (by rw [c_5]; decide) (by rw [c_5]; decide) (by rw [c_5]; decide) rfl ?_
    refine gz_aload_n (pc := 40) dX1_markOf_40 rfl rfl ?_
    refine gz_iload_n (pc := 41) dX1_markOf_41 rfl rfl ?_
    refine gz_cVI (av := [.int x1]) (st := []) (pc := 42) dX1_markOf_42 kl_RX1_110 rfl (gz_shs c_1) rfl rfl (Nat.le_of_ble_eq_true rfl) (by show d + 0 + 3 + 1 ≤ d + 4; omega) (sX1_placesWithTelling (d := d + 0) (gz_gc hf)) (fun y_7 h_6 hf => ?_)
    exact gz_irt (pc := 45) dX1_markOf_45 rfl rfl hf
  have hf := gz_gF hf c_5
  by_cases c_8 : x2 = (2 : Int32)
  · have hf := gz_gT hf c_8
    refine gz_tIn (off := 38) (tgt := 46) (pc := 8) dX1_markOf_8 (by rw [c_8]; decide) (by rw [c_8]; decide) (by rw [c_8]; decide) rfl ?_
    refine gz_aload_n (pc := 46) dX1_markOf_46 rfl rfl ?_
    refine gz_iload_n (pc := 47) dX1_markOf_47 rfl rfl ?_
    refine gz_cVI (av := [.int x1]) (st := []) (pc := 48) dX1_markOf_48 kl_RX1_113 rfl (gz_shs c_1) rfl rfl (Nat.le_of_ble_eq_true rfl) (by show d + 0 + 3 + 1 ≤ d + 4; omega) (sX1_toldTwice (d := d + 0) (gz_gc hf)) (fun y_10 h_9 hf => ?_)
    exact gz_irt (pc := 51) dX1_markOf_51 rfl rfl hf
  have hf := gz_gF hf c_8
  by_cases c_11 : x2 = (3 : Int32)
  · have hf := gz_gT hf c_11
    refine gz_tIn (off := 44) (tgt := 52) (pc := 8) dX1_markOf_8 (by rw [c_11]; decide) (by rw [c_11]; decide) (by rw [c_11]; decide) rfl ?_
    refine gz_aload_n (pc := 52) dX1_markOf_52 rfl rfl ?_
    refine gz_gk hf (fun c_14 hf => ?_)
    refine gz_cVI (av := []) (st := []) (pc := 53) dX1_markOf_53 kl_RX1_116 rfl (gz_shs c_14) rfl rfl (Nat.le_of_ble_eq_true rfl) (by show d + 3 + 0 + 1 ≤ d + 4; omega) (sX2_room (d := d + 3) (gz_gc hf)) (fun y_13 h_12 hf => ?_)
    exact gz_irt (pc := 56) dX1_markOf_56 rfl rfl hf
  have hf := gz_gF hf c_11
  by_cases c_15 : x2 = (4 : Int32)
  · have hf := gz_gT hf c_15
    refine gz_tIn (off := 49) (tgt := 57) (pc := 8) dX1_markOf_8 (by rw [c_15]; decide) (by rw [c_15]; decide) (by rw [c_15]; decide) rfl ?_
    refine gz_aload_n (pc := 57) dX1_markOf_57 rfl rfl ?_
    refine gz_gk hf (fun c_18 hf => ?_)
    refine gz_cVI (av := []) (st := []) (pc := 58) dX1_markOf_58 kl_RX1_90 rfl (gz_shs c_18) rfl rfl (Nat.le_of_ble_eq_true rfl) (by show d + 3 + 0 + 1 ≤ d + 4; omega) (sX2_set (d := d + 3) (gz_gc hf)) (fun y_17 h_16 hf => ?_)
    refine gz_aload_n (pc := 61) dX1_markOf_61 rfl rfl ?_
    refine gz_iload_n (pc := 62) dX1_markOf_62 rfl rfl ?_
    refine gz_gk hf (fun c_21 hf => ?_)
    refine gz_cVI (av := [.int x1]) (st := [.int y_17]) (pc := 63) dX1_markOf_63 kl_RX1_119 rfl (gz_shs c_21) rfl rfl (Nat.le_of_ble_eq_true rfl) (by show d + 0 + 3 + 1 ≤ d + 4; omega) (sX1_toldSomewhere (d := d + 0) (gz_gc hf)) (fun y_20 h_19 hf => ?_)
    refine gz_iconst (v := (-1 : Int32)) (pc := 66) dX1_markOf_66 rfl ?_
    refine gz_ixor (pc := 67) dX1_markOf_67 ?_
    refine gz_iand (pc := 68) dX1_markOf_68 ?_
    refine gz_cSI (av := [.int (y_17 &&& (y_20 ^^^ (-1 : Int32)))]) (st := []) (pc := 69) dX1_markOf_69 kl_RX1_47 rfl rfl (Nat.le_of_ble_eq_true rfl) (by show d + 3 + 0 + 1 ≤ d + 4; omega) (sJ6_bitCount_0f7a4 (d := d + 3) (gz_gc hf)) (fun y_23 h_22 hf => ?_)
    exact gz_irt (pc := 72) dX1_markOf_72 rfl rfl hf
  have hf := gz_gF hf c_15
  refine gz_tOut (tgt := 73) (pc := 8) dX1_markOf_8 (gz_tout 4 (fun k hk => match k, hk with | 0, _ => c_5 | 1, _ => c_8 | 2, _ => c_11 | 3, _ => c_15 | k + 4, hk => absurd hk (by omega))) rfl ?_
  refine gz_aload_n (pc := 73) dX1_markOf_73 rfl rfl ?_
  refine gz_iload_n (pc := 74) dX1_markOf_74 rfl rfl ?_
  refine gz_cVI (av := [.int x1]) (st := []) (pc := 75) dX1_markOf_75 kl_RX1_122 rfl (gz_shs c_1) rfl rfl (Nat.le_of_ble_eq_true rfl) (by show d + 1 + 2 + 1 ≤ d + 4; omega) (sX1_heldOnlyBy (d := d + 1) (gz_gc hf)) (fun y_25 h_24 hf => ?_)
  refine gz_cSI (av := [.int y_25]) (st := []) (pc := 78) dX1_markOf_78 kl_RX1_47 rfl rfl (Nat.le_of_ble_eq_true rfl) (by show d + 3 + 0 + 1 ≤ d + 4; omega) (sJ6_bitCount_0f7a4 (d := d + 3) (gz_gc hf)) (fun y_27 h_26 hf => ?_)
  exact gz_irt (pc := 81) dX1_markOf_81 rfl rfl hf
def fX1_markOf (a0 : Nat) (x1 : Int32) (x2 : Int32) (h : gz_H) : Option (Int32 × gz_H) := fX1_markOf_0 a0 x1 x2 h
theorem sX1_markOf {G : gz_G} {d : Nat} {a0 : Nat} {x1 : Int32} {x2 : Int32} {h : gz_H} {Q : Int32 → gz_H → Prop} (hf : gz_g (fX1_markOf a0 x1 x2 h) Q) : gz_Cl G mX1_markOf (d + 4) 0 0 [.ref a0, .int x1, .int x2] h (gz_qi Q) := gz_cl_of (lo := [.ref a0, .int x1, .int x2, .retAddr 0]) (by decide) rfl rfl (Nat.le_of_ble_eq_true rfl) (sX1_markOf_0 a0 x1 x2 h hf)
theorem dX1_roomOf_0 : decode cX1_roomOf 0 = .ok (.iconst 0, 1) := by decide +kernel
theorem dX1_roomOf_1 : decode cX1_roomOf 1 = .ok (.istore_n 2, 1) := by decide +kernel
theorem dX1_roomOf_2 : decode cX1_roomOf 2 = .ok (.iconst 0, 1) := by decide +kernel
theorem dX1_roomOf_3 : decode cX1_roomOf 3 = .ok (.istore_n 3, 1) := by decide +kernel
theorem dX1_roomOf_4 : decode cX1_roomOf 4 = .ok (.iload_n 3, 1) := by decide +kernel
theorem dX1_roomOf_5 : decode cX1_roomOf 5 = .ok (.aload_n 0, 1) := by decide +kernel
theorem dX1_roomOf_6 : decode cX1_roomOf 6 = .ok (.getfield 32, 3) := by decide +kernel
theorem dX1_roomOf_9 : decode cX1_roomOf 9 = .ok (.if_icmp .ge 29, 3) := by decide +kernel
theorem dX1_roomOf_12 : decode cX1_roomOf 12 = .ok (.iload_n 1, 1) := by decide +kernel
theorem dX1_roomOf_13 : decode cX1_roomOf 13 = .ok (.iload_n 3, 1) := by decide +kernel
theorem dX1_roomOf_14 : decode cX1_roomOf 14 = .ok (.ishr, 1) := by decide +kernel
theorem dX1_roomOf_15 : decode cX1_roomOf 15 = .ok (.iconst 1, 1) := by decide +kernel
theorem dX1_roomOf_16 : decode cX1_roomOf 16 = .ok (.iand, 1) := by decide +kernel
theorem dX1_roomOf_17 : decode cX1_roomOf 17 = .ok (.ifCond .eq 15, 3) := by decide +kernel
theorem dX1_roomOf_20 : decode cX1_roomOf 20 = .ok (.iload_n 2, 1) := by decide +kernel
theorem dX1_roomOf_21 : decode cX1_roomOf 21 = .ok (.aload_n 0, 1) := by decide +kernel
theorem dX1_roomOf_22 : decode cX1_roomOf 22 = .ok (.getfield 17, 3) := by decide +kernel
theorem dX1_roomOf_25 : decode cX1_roomOf 25 = .ok (.iload_n 3, 1) := by decide +kernel
theorem dX1_roomOf_26 : decode cX1_roomOf 26 = .ok (.aaload, 1) := by decide +kernel
theorem dX1_roomOf_27 : decode cX1_roomOf 27 = .ok (.invokevirtual 116, 3) := by decide +kernel
theorem dX1_roomOf_30 : decode cX1_roomOf 30 = .ok (.iadd, 1) := by decide +kernel
theorem dX1_roomOf_31 : decode cX1_roomOf 31 = .ok (.istore_n 2, 1) := by decide +kernel
theorem dX1_roomOf_32 : decode cX1_roomOf 32 = .ok (.iinc 3 1, 3) := by decide +kernel
theorem dX1_roomOf_35 : decode cX1_roomOf 35 = .ok (.goto (-31), 3) := by decide +kernel
theorem dX1_roomOf_38 : decode cX1_roomOf 38 = .ok (.iload_n 2, 1) := by decide +kernel
theorem dX1_roomOf_39 : decode cX1_roomOf 39 = .ok (.ireturn, 1) := by decide +kernel
def fX1_roomOf_32 (k4 : Nat → Int32 → Int32 → Int32 → gz_H → Option (Int32 × gz_H)) (a0 : Nat) (x1 : Int32) (x2 : Int32) (x3 : Int32) (h : gz_H) : Option (Int32 × gz_H) :=
    k4 a0 x1 x2 (x3 + 1) h
set_option maxRecDepth 100000 in
set_option maxHeartbeats 1000000 in
theorem sX1_roomOf_32 {G : gz_G} {d l0 s0 : Nat} {Q : Int32 → gz_H → Prop} {k4 : Nat → Int32 → Int32 → Int32 → gz_H → Option (Int32 × gz_H)} (hk4 : ∀ (a0 : Nat) (x1 : Int32) (x2 : Int32) (x3 : Int32) (h : gz_H), gz_g (k4 a0 x1 x2 x3 h) Q → gz_Ok G mX1_roomOf (d + 1, l0, s0, 0, 0) 4 [.ref a0, .int x1, .int x2, .int x3] [] h (gz_qi Q)) (a0 : Nat) (x1 : Int32) (x2 : Int32) (x3 : Int32) (h : gz_H) (hf : gz_g (fX1_roomOf_32 k4 a0 x1 x2 x3 h) Q) : gz_Ok G mX1_roomOf (d + 1, l0, s0, 0, 0) 32 [.ref a0, .int x1, .int x2, .int x3] [] h (gz_qi Q) := by
  unfold fX1_roomOf_32 at hf
  refine gz_iinc (v := x3 + 1) (lv := [.ref a0, .int x1, .int x2, .int (x3 + 1)]) (pc := 32) dX1_roomOf_32 rfl rfl (by decide) rfl ?_
  refine gz_goto (tgt := 4) (pc := 35) dX1_roomOf_35 rfl ?_
  exact hk4 a0 x1 x2 (x3 + 1) h hf
def fX1_roomOf_4  : Nat → Nat → Int32 → Int32 → Int32 → gz_H → Option (Int32 × gz_H)
  | 0, _, _, _, _, _ => none
  | n + 1, a0, x1, x2, x3, h =>
    gz_ck (gz_sh h a0 1 4) <|
    if (h.2.1 a0 3) ≤ x3 then (
     some (x2, h)
    ) else (
     if ((x1 >>> (x3 &&& 31)) &&& (1 : Int32)) = 0 then (
      fX1_roomOf_32 (fun z0 z1 z2 z3 zh => fX1_roomOf_4 n z0 z1 z2 z3 zh) a0 x1 x2 x3 h
     ) else (
      gz_br (h.2.2.2 a0 1) fun r_4 =>
      gz_ck (gz_inb h r_4 11 x3) <|
      gz_br (h.2.2.2 r_4 x3.toNatClampNeg) fun r_6 =>
      gz_ck (gz_sh h r_6 2 6) <|
      gz_b2 (fX2_room r_6 h) fun y_8 h_7 =>
      fX1_roomOf_32 (fun z0 z1 z2 z3 zh => fX1_roomOf_4 n z0 z1 z2 z3 zh) a0 x1 (x2 + y_8) x3 h_7
     )
    )
set_option maxRecDepth 100000 in
set_option maxHeartbeats 1000000 in
theorem sX1_roomOf_4 {G : gz_G} {d l0 s0 : Nat} {Q : Int32 → gz_H → Prop} : ∀ (n : Nat) (a0 : Nat) (x1 : Int32) (x2 : Int32) (x3 : Int32) (h : gz_H), gz_g (fX1_roomOf_4  n a0 x1 x2 x3 h) Q → gz_Ok G mX1_roomOf (d + 1, l0, s0, 0, 0) 4 [.ref a0, .int x1, .int x2, .int x3] [] h (gz_qi Q) := by
  intro n
  induction n with
  | zero => intro a0 x1 x2 x3 h hf; exact False.elim hf
  | succ n ih =>
    intro a0 x1 x2 x3 h hf
    rw [fX1_roomOf_4] at hf
    refine gz_iload_n (pc := 4) dX1_roomOf_4 rfl rfl ?_
    refine gz_aload_n (pc := 5) dX1_roomOf_5 rfl rfl ?_
    refine gz_gk hf (fun c_1 hf => ?_)
    refine gz_getI (pc := 6) dX1_roomOf_6 fl_RX1_32 rfl (gz_shs c_1) ?_
    refine gz_icmp_ge (tgt := 38) (pc := 9) dX1_roomOf_9 rfl (fun c_2 => ?_) (fun c_2 => ?_)
    · have hf := gz_gT hf c_2
      refine gz_iload_n (pc := 38) dX1_roomOf_38 rfl rfl ?_
      exact gz_irt (pc := 39) dX1_roomOf_39 rfl rfl hf
    · have hf := gz_gF hf c_2
      refine gz_iload_n (pc := 12) dX1_roomOf_12 rfl rfl ?_
      refine gz_iload_n (pc := 13) dX1_roomOf_13 rfl rfl ?_
      refine gz_ishr (pc := 14) dX1_roomOf_14 ?_
      refine gz_iconst (v := (1 : Int32)) (pc := 15) dX1_roomOf_15 rfl ?_
      refine gz_iand (pc := 16) dX1_roomOf_16 ?_
      refine gz_if_eq (tgt := 32) (pc := 17) dX1_roomOf_17 rfl (fun c_3 => ?_) (fun c_3 => ?_)
      · have hf := gz_gT hf c_3
        exact sX1_roomOf_32 ih a0 x1 x2 x3 h hf
      · have hf := gz_gF hf c_3
        refine gz_iload_n (pc := 20) dX1_roomOf_20 rfl rfl ?_
        refine gz_aload_n (pc := 21) dX1_roomOf_21 rfl rfl ?_
        refine gz_gb hf (fun r_4 er_4 hf => ?_)
        refine gz_getR (pc := 22) dX1_roomOf_22 fl_RX1_17 rfl (gz_shs c_1) er_4 ?_
        refine gz_iload_n (pc := 25) dX1_roomOf_25 rfl rfl ?_
        refine gz_gk hf (fun c_5 hf => ?_)
        refine gz_gb hf (fun r_6 er_6 hf => ?_)
        refine gz_aald (Or.inl rfl) (pc := 26) dX1_roomOf_26 c_5 er_6 ?_
        refine gz_gk hf (fun c_9 hf => ?_)
        refine gz_cVI (av := []) (st := [.int x2]) (pc := 27) dX1_roomOf_27 kl_RX1_116 rfl (gz_shs c_9) rfl rfl (Nat.le_of_ble_eq_true rfl) (by show d + 0 + 0 + 1 ≤ d + 1; omega) (sX2_room (d := d + 0) (gz_gc hf)) (fun y_8 h_7 hf => ?_)
        refine gz_iadd (pc := 30) dX1_roomOf_30 ?_
        refine gz_istore_n (lv := [.ref a0, .int x1, .int (x2 + y_8), .int x3]) (pc := 31) dX1_roomOf_31 rfl (by decide) rfl ?_
        exact sX1_roomOf_32 ih a0 x1 (x2 + y_8) x3 h_7 hf
def fX1_roomOf_0  (a0 : Nat) (x1 : Int32) (h : gz_H) : Option (Int32 × gz_H) :=
    fX1_roomOf_4 gz_fu a0 x1 (0 : Int32) (0 : Int32) h
set_option maxRecDepth 100000 in
set_option maxHeartbeats 1000000 in
theorem sX1_roomOf_0 {G : gz_G} {d l0 s0 : Nat} {Q : Int32 → gz_H → Prop} (a0 : Nat) (x1 : Int32) (h : gz_H) (hf : gz_g (fX1_roomOf_0  a0 x1 h) Q) : gz_Ok G mX1_roomOf (d + 1, l0, s0, 0, 0) 0 [.ref a0, .int x1, .retAddr 0, .retAddr 0] [] h (gz_qi Q) := by
  unfold fX1_roomOf_0 at hf
  refine gz_iconst (v := (0 : Int32)) (pc := 0) dX1_roomOf_0 rfl ?_
  refine gz_istore_n (lv := [.ref a0, .int x1, .int (0 : Int32), .retAddr 0]) (pc := 1) dX1_roomOf_1 rfl (by decide) rfl ?_
  refine gz_iconst (v := (0 : Int32)) (pc := 2) dX1_roomOf_2 rfl ?_
  refine gz_istore_n (lv := [.ref a0, .int x1, .int (0 : Int32), .int (0 : Int32)]) (pc := 3) dX1_roomOf_3 rfl (by decide) rfl ?_
  exact sX1_roomOf_4 gz_fu a0 x1 (0 : Int32) (0 : Int32) h hf
def fX1_roomOf (a0 : Nat) (x1 : Int32) (h : gz_H) : Option (Int32 × gz_H) := fX1_roomOf_0 a0 x1 h
theorem sX1_roomOf {G : gz_G} {d : Nat} {a0 : Nat} {x1 : Int32} {h : gz_H} {Q : Int32 → gz_H → Prop} (hf : gz_g (fX1_roomOf a0 x1 h) Q) : gz_Cl G mX1_roomOf (d + 1) 0 0 [.ref a0, .int x1] h (gz_qi Q) := gz_cl_of (lo := [.ref a0, .int x1, .retAddr 0, .retAddr 0]) (by decide) rfl rfl (Nat.le_of_ble_eq_true rfl) (sX1_roomOf_0 a0 x1 h hf)
theorem dX1_waysToReturn_0 : decode cX1_waysToReturn 0 = .ok (.lconst 1, 1) := by decide +kernel
theorem dX1_waysToReturn_1 : decode cX1_waysToReturn 1 = .ok (.lstore_n 3, 1) := by decide +kernel
theorem dX1_waysToReturn_2 : decode cX1_waysToReturn 2 = .ok (.iconst 0, 1) := by decide +kernel
theorem dX1_waysToReturn_3 : decode cX1_waysToReturn 3 = .ok (.istore 5, 2) := by decide +kernel
theorem dX1_waysToReturn_5 : decode cX1_waysToReturn 5 = .ok (.iload 5, 2) := by decide +kernel
theorem dX1_waysToReturn_7 : decode cX1_waysToReturn 7 = .ok (.aload_n 0, 1) := by decide +kernel
theorem dX1_waysToReturn_8 : decode cX1_waysToReturn 8 = .ok (.getfield 32, 3) := by decide +kernel
theorem dX1_waysToReturn_11 : decode cX1_waysToReturn 11 = .ok (.if_icmp .ge 63, 3) := by decide +kernel
theorem dX1_waysToReturn_14 : decode cX1_waysToReturn 14 = .ok (.iload_n 1, 1) := by decide +kernel
theorem dX1_waysToReturn_15 : decode cX1_waysToReturn 15 = .ok (.iload 5, 2) := by decide +kernel
theorem dX1_waysToReturn_17 : decode cX1_waysToReturn 17 = .ok (.ishr, 1) := by decide +kernel
theorem dX1_waysToReturn_18 : decode cX1_waysToReturn 18 = .ok (.iconst 1, 1) := by decide +kernel
theorem dX1_waysToReturn_19 : decode cX1_waysToReturn 19 = .ok (.iand, 1) := by decide +kernel
theorem dX1_waysToReturn_20 : decode cX1_waysToReturn 20 = .ok (.ifCond .eq 7, 3) := by decide +kernel
theorem dX1_waysToReturn_23 : decode cX1_waysToReturn 23 = .ok (.iconst 1, 1) := by decide +kernel
theorem dX1_waysToReturn_24 : decode cX1_waysToReturn 24 = .ok (.goto 4, 3) := by decide +kernel
theorem dX1_waysToReturn_27 : decode cX1_waysToReturn 27 = .ok (.iconst 0, 1) := by decide +kernel
theorem dX1_waysToReturn_28 : decode cX1_waysToReturn 28 = .ok (.istore 6, 2) := by decide +kernel
theorem dX1_waysToReturn_30 : decode cX1_waysToReturn 30 = .ok (.aload_n 0, 1) := by decide +kernel
theorem dX1_waysToReturn_31 : decode cX1_waysToReturn 31 = .ok (.getfield 17, 3) := by decide +kernel
theorem dX1_waysToReturn_34 : decode cX1_waysToReturn 34 = .ok (.iload 5, 2) := by decide +kernel
theorem dX1_waysToReturn_36 : decode cX1_waysToReturn 36 = .ok (.aaload, 1) := by decide +kernel
theorem dX1_waysToReturn_37 : decode cX1_waysToReturn 37 = .ok (.getfield 39, 3) := by decide +kernel
theorem dX1_waysToReturn_40 : decode cX1_waysToReturn 40 = .ok (.ifCond .eq 10, 3) := by decide +kernel
theorem dX1_waysToReturn_43 : decode cX1_waysToReturn 43 = .ok (.iload 6, 2) := by decide +kernel
theorem dX1_waysToReturn_45 : decode cX1_waysToReturn 45 = .ok (.ifCond .eq 23, 3) := by decide +kernel
theorem dX1_waysToReturn_48 : decode cX1_waysToReturn 48 = .ok (.lconst 0, 1) := by decide +kernel
theorem dX1_waysToReturn_49 : decode cX1_waysToReturn 49 = .ok (.lreturn, 1) := by decide +kernel
theorem dX1_waysToReturn_50 : decode cX1_waysToReturn 50 = .ok (.lload_n 3, 1) := by decide +kernel
theorem dX1_waysToReturn_51 : decode cX1_waysToReturn 51 = .ok (.iload 6, 2) := by decide +kernel
theorem dX1_waysToReturn_53 : decode cX1_waysToReturn 53 = .ok (.ifCond .eq 8, 3) := by decide +kernel
theorem dX1_waysToReturn_56 : decode cX1_waysToReturn 56 = .ok (.iload_n 2, 1) := by decide +kernel
theorem dX1_waysToReturn_57 : decode cX1_waysToReturn 57 = .ok (.i2l, 1) := by decide +kernel
theorem dX1_waysToReturn_58 : decode cX1_waysToReturn 58 = .ok (.goto 8, 3) := by decide +kernel
theorem dX1_waysToReturn_61 : decode cX1_waysToReturn 61 = .ok (.bipush 12, 2) := by decide +kernel
theorem dX1_waysToReturn_63 : decode cX1_waysToReturn 63 = .ok (.iload_n 2, 1) := by decide +kernel
theorem dX1_waysToReturn_64 : decode cX1_waysToReturn 64 = .ok (.isub, 1) := by decide +kernel
theorem dX1_waysToReturn_65 : decode cX1_waysToReturn 65 = .ok (.i2l, 1) := by decide +kernel
theorem dX1_waysToReturn_66 : decode cX1_waysToReturn 66 = .ok (.lmul, 1) := by decide +kernel
theorem dX1_waysToReturn_67 : decode cX1_waysToReturn 67 = .ok (.lstore_n 3, 1) := by decide +kernel
theorem dX1_waysToReturn_68 : decode cX1_waysToReturn 68 = .ok (.iinc 5 1, 3) := by decide +kernel
theorem dX1_waysToReturn_71 : decode cX1_waysToReturn 71 = .ok (.goto (-66), 3) := by decide +kernel
theorem dX1_waysToReturn_74 : decode cX1_waysToReturn 74 = .ok (.lload_n 3, 1) := by decide +kernel
theorem dX1_waysToReturn_75 : decode cX1_waysToReturn 75 = .ok (.lreturn, 1) := by decide +kernel
def fX1_waysToReturn_68 (k5 : Nat → Int32 → Int32 → Int64 → Int32 → gz_H → Option (Int64 × gz_H)) (a0 : Nat) (x1 : Int32) (x2 : Int32) (x3 : Int64) (x5 : Int32) (h : gz_H) : Option (Int64 × gz_H) :=
    k5 a0 x1 x2 x3 (x5 + 1) h
set_option maxRecDepth 100000 in
set_option maxHeartbeats 1000000 in
theorem sX1_waysToReturn_68 {G : gz_G} {d l0 s0 : Nat} {Q : Int64 → gz_H → Prop} {k5 : Nat → Int32 → Int32 → Int64 → Int32 → gz_H → Option (Int64 × gz_H)} (hk5 : ∀ (a0 : Nat) (x1 : Int32) (x2 : Int32) (x3 : Int64) (x5 : Int32) (h : gz_H), gz_g (k5 a0 x1 x2 x3 x5 h) Q → gz_Ok G mX1_waysToReturn (d + 0, l0, s0, 0, 0) 5 [.ref a0, .int x1, .int x2, .long x3, .retAddr 0, .int x5, .retAddr 0] [] h (gz_ql Q)) (a0 : Nat) (x1 : Int32) (x2 : Int32) (x3 : Int64) (x5 : Int32) (h : gz_H) (hf : gz_g (fX1_waysToReturn_68 k5 a0 x1 x2 x3 x5 h) Q) : gz_Ok G mX1_waysToReturn (d + 0, l0, s0, 0, 0) 68 [.ref a0, .int x1, .int x2, .long x3, .retAddr 0, .int x5, .retAddr 0] [] h (gz_ql Q) := by
  unfold fX1_waysToReturn_68 at hf
  refine gz_iinc (v := x5 + 1) (lv := [.ref a0, .int x1, .int x2, .long x3, .retAddr 0, .int (x5 + 1), .retAddr 0]) (pc := 68) dX1_waysToReturn_68 rfl rfl (by decide) rfl ?_
  refine gz_goto (tgt := 5) (pc := 71) dX1_waysToReturn_71 rfl ?_
  exact hk5 a0 x1 x2 x3 (x5 + 1) h hf
def fX1_waysToReturn_66 (k5 : Nat → Int32 → Int32 → Int64 → Int32 → gz_H → Option (Int64 × gz_H)) (a0 : Nat) (x1 : Int32) (x2 : Int32) (x5 : Int32) (w0 : Int64) (w1 : Int64) (h : gz_H) : Option (Int64 × gz_H) :=
    fX1_waysToReturn_68 k5 a0 x1 x2 (w0 * w1) x5 h
set_option maxRecDepth 100000 in
set_option maxHeartbeats 1000000 in
theorem sX1_waysToReturn_66 {G : gz_G} {d l0 s0 : Nat} {Q : Int64 → gz_H → Prop} {k5 : Nat → Int32 → Int32 → Int64 → Int32 → gz_H → Option (Int64 × gz_H)} (hk5 : ∀ (a0 : Nat) (x1 : Int32) (x2 : Int32) (x3 : Int64) (x5 : Int32) (h : gz_H), gz_g (k5 a0 x1 x2 x3 x5 h) Q → gz_Ok G mX1_waysToReturn (d + 0, l0, s0, 0, 0) 5 [.ref a0, .int x1, .int x2, .long x3, .retAddr 0, .int x5, .retAddr 0] [] h (gz_ql Q)) (a0 : Nat) (x1 : Int32) (x2 : Int32) (x5 : Int32) (w0 : Int64) (w1 : Int64) (h : gz_H) (hf : gz_g (fX1_waysToReturn_66 k5 a0 x1 x2 x5 w0 w1 h) Q) : gz_Ok G mX1_waysToReturn (d + 0, l0, s0, 0, 0) 66 [.ref a0, .int x1, .int x2, .retAddr 0, .retAddr 0, .int x5, .retAddr 0] [.long w1, .long w0] h (gz_ql Q) := by
  unfold fX1_waysToReturn_66 at hf
  refine gz_lmul (pc := 66) dX1_waysToReturn_66 ?_
  refine gz_lstore_n (lv := [.ref a0, .int x1, .int x2, .long (w0 * w1), .retAddr 0, .int x5, .retAddr 0]) (pc := 67) dX1_waysToReturn_67 rfl (by decide) rfl ?_
  exact sX1_waysToReturn_68 hk5 a0 x1 x2 (w0 * w1) x5 h hf
def fX1_waysToReturn_28 (k5 : Nat → Int32 → Int32 → Int64 → Int32 → gz_H → Option (Int64 × gz_H)) (a0 : Nat) (x1 : Int32) (x2 : Int32) (x3 : Int64) (x5 : Int32) (w0 : Int32) (h : gz_H) : Option (Int64 × gz_H) :=
    gz_ck (gz_sh h a0 1 4) <|
    gz_br (h.2.2.2 a0 1) fun r_2 =>
    gz_ck (gz_inb h r_2 11 x5) <|
    gz_br (h.2.2.2 r_2 x5.toNatClampNeg) fun r_4 =>
    gz_ck (gz_sh h r_4 2 6) <|
    if (h.2.1 r_4 5) = 0 then (
     if w0 = 0 then (
      fX1_waysToReturn_66 k5 a0 x1 x2 x5 x3 (((12 : Int32) - x2).toInt64) h
     ) else (
      fX1_waysToReturn_66 k5 a0 x1 x2 x5 x3 x2.toInt64 h
     )
    ) else (
     if w0 = 0 then (
      fX1_waysToReturn_68 k5 a0 x1 x2 x3 x5 h
     ) else (
      some ((0 : Int64), h)
     )
    )
set_option maxRecDepth 100000 in
set_option maxHeartbeats 1000000 in
theorem sX1_waysToReturn_28 {G : gz_G} {d l0 s0 : Nat} {Q : Int64 → gz_H → Prop} {k5 : Nat → Int32 → Int32 → Int64 → Int32 → gz_H → Option (Int64 × gz_H)} (hk5 : ∀ (a0 : Nat) (x1 : Int32) (x2 : Int32) (x3 : Int64) (x5 : Int32) (h : gz_H), gz_g (k5 a0 x1 x2 x3 x5 h) Q → gz_Ok G mX1_waysToReturn (d + 0, l0, s0, 0, 0) 5 [.ref a0, .int x1, .int x2, .long x3, .retAddr 0, .int x5, .retAddr 0] [] h (gz_ql Q)) (a0 : Nat) (x1 : Int32) (x2 : Int32) (x3 : Int64) (x5 : Int32) (w0 : Int32) (h : gz_H) (hf : gz_g (fX1_waysToReturn_28 k5 a0 x1 x2 x3 x5 w0 h) Q) : gz_Ok G mX1_waysToReturn (d + 0, l0, s0, 0, 0) 28 [.ref a0, .int x1, .int x2, .long x3, .retAddr 0, .int x5, .retAddr 0] [.int w0] h (gz_ql Q) := by
  unfold fX1_waysToReturn_28 at hf
  refine gz_istore (lv := [.ref a0, .int x1, .int x2, .long x3, .retAddr 0, .int x5, .int w0]) (pc := 28) dX1_waysToReturn_28 (by decide) rfl ?_
  refine gz_aload_n (pc := 30) dX1_waysToReturn_30 rfl rfl ?_
  refine gz_gk hf (fun c_1 hf => ?_)
  refine gz_gb hf (fun r_2 er_2 hf => ?_)
  refine gz_getR (pc := 31) dX1_waysToReturn_31 fl_RX1_17 rfl (gz_shs c_1) er_2 ?_
  refine gz_iload (pc := 34) dX1_waysToReturn_34 rfl ?_
  refine gz_gk hf (fun c_3 hf => ?_)
  refine gz_gb hf (fun r_4 er_4 hf => ?_)
  refine gz_aald (Or.inl rfl) (pc := 36) dX1_waysToReturn_36 c_3 er_4 ?_
  refine gz_gk hf (fun c_5 hf => ?_)
  refine gz_getI (pc := 37) dX1_waysToReturn_37 fl_RX1_39 rfl (gz_shs c_5) ?_
  refine gz_if_eq (tgt := 50) (pc := 40) dX1_waysToReturn_40 rfl (fun c_6 => ?_) (fun c_6 => ?_)
  · have hf := gz_gT hf c_6
    refine gz_lload_n (pc := 50) dX1_waysToReturn_50 rfl rfl ?_
    refine gz_iload (pc := 51) dX1_waysToReturn_51 rfl ?_
    refine gz_if_eq (tgt := 61) (pc := 53) dX1_waysToReturn_53 rfl (fun c_7 => ?_) (fun c_7 => ?_)
    · have hf := gz_gT hf c_7
      refine gz_bipush (v := (12 : Int32)) (pc := 61) dX1_waysToReturn_61 rfl ?_
      refine gz_iload_n (pc := 63) dX1_waysToReturn_63 rfl rfl ?_
      refine gz_isub (pc := 64) dX1_waysToReturn_64 ?_
      refine gz_i2l (pc := 65) dX1_waysToReturn_65 ?_
      refine gz_fg (lv := [.ref a0, .int x1, .int x2, .retAddr 0, .retAddr 0, .int x5, .retAddr 0]) ⟨Or.inr rfl, ⟨Or.inr rfl, ⟨Or.inr rfl, ⟨Or.inl rfl, ⟨Or.inl rfl, ⟨Or.inr rfl, ⟨Or.inl rfl, trivial⟩⟩⟩⟩⟩⟩⟩ ?_
      exact sX1_waysToReturn_66 hk5 a0 x1 x2 x5 x3 (((12 : Int32) - x2).toInt64) h hf
    · have hf := gz_gF hf c_7
      refine gz_iload_n (pc := 56) dX1_waysToReturn_56 rfl rfl ?_
      refine gz_i2l (pc := 57) dX1_waysToReturn_57 ?_
      refine gz_goto (tgt := 66) (pc := 58) dX1_waysToReturn_58 rfl ?_
      refine gz_fg (lv := [.ref a0, .int x1, .int x2, .retAddr 0, .retAddr 0, .int x5, .retAddr 0]) ⟨Or.inr rfl, ⟨Or.inr rfl, ⟨Or.inr rfl, ⟨Or.inl rfl, ⟨Or.inl rfl, ⟨Or.inr rfl, ⟨Or.inl rfl, trivial⟩⟩⟩⟩⟩⟩⟩ ?_
      exact sX1_waysToReturn_66 hk5 a0 x1 x2 x5 x3 x2.toInt64 h hf
  · have hf := gz_gF hf c_6
    refine gz_iload (pc := 43) dX1_waysToReturn_43 rfl ?_
    refine gz_if_eq (tgt := 68) (pc := 45) dX1_waysToReturn_45 rfl (fun c_8 => ?_) (fun c_8 => ?_)
    · have hf := gz_gT hf c_8
      refine gz_fg (lv := [.ref a0, .int x1, .int x2, .long x3, .retAddr 0, .int x5, .retAddr 0]) ⟨Or.inr rfl, ⟨Or.inr rfl, ⟨Or.inr rfl, ⟨Or.inr rfl, ⟨Or.inl rfl, ⟨Or.inr rfl, ⟨Or.inl rfl, trivial⟩⟩⟩⟩⟩⟩⟩ ?_
      exact sX1_waysToReturn_68 hk5 a0 x1 x2 x3 x5 h hf
    · have hf := gz_gF hf c_8
      refine gz_lconst (v := (0 : Int64)) (pc := 48) dX1_waysToReturn_48 rfl ?_
      exact gz_lrt (pc := 49) dX1_waysToReturn_49 rfl hf
def fX1_waysToReturn_5  : Nat → Nat → Int32 → Int32 → Int64 → Int32 → gz_H → Option (Int64 × gz_H)
  | 0, _, _, _, _, _, _ => none
  | n + 1, a0, x1, x2, x3, x5, h =>
    gz_ck (gz_sh h a0 1 4) <|
    if (h.2.1 a0 3) ≤ x5 then (
     some (x3, h)
    ) else (
     if ((x1 >>> (x5 &&& 31)) &&& (1 : Int32)) = 0 then (
      fX1_waysToReturn_28 (fun z0 z1 z2 z3 z4 zh => fX1_waysToReturn_5 n z0 z1 z2 z3 z4 zh) a0 x1 x2 x3 x5 (0 : Int32) h
     ) else (
      fX1_waysToReturn_28 (fun z0 z1 z2 z3 z4 zh => fX1_waysToReturn_5 n z0 z1 z2 z3 z4 zh) a0 x1 x2 x3 x5 (1 : Int32) h
     )
    )
set_option maxRecDepth 100000 in
set_option maxHeartbeats 1000000 in
theorem sX1_waysToReturn_5 {G : gz_G} {d l0 s0 : Nat} {Q : Int64 → gz_H → Prop} : ∀ (n : Nat) (a0 : Nat) (x1 : Int32) (x2 : Int32) (x3 : Int64) (x5 : Int32) (h : gz_H), gz_g (fX1_waysToReturn_5  n a0 x1 x2 x3 x5 h) Q → gz_Ok G mX1_waysToReturn (d + 0, l0, s0, 0, 0) 5 [.ref a0, .int x1, .int x2, .long x3, .retAddr 0, .int x5, .retAddr 0] [] h (gz_ql Q) := by
  intro n
  induction n with
  | zero => intro a0 x1 x2 x3 x5 h hf; exact False.elim hf
  | succ n ih =>
    intro a0 x1 x2 x3 x5 h hf
    rw [fX1_waysToReturn_5] at hf
    refine gz_iload (pc := 5) dX1_waysToReturn_5 rfl ?_
    refine gz_aload_n (pc := 7) dX1_waysToReturn_7 rfl rfl ?_
    refine gz_gk hf (fun c_1 hf => ?_)
    refine gz_getI (pc := 8) dX1_waysToReturn_8 fl_RX1_32 rfl (gz_shs c_1) ?_
    refine gz_icmp_ge (tgt := 74) (pc := 11) dX1_waysToReturn_11 rfl (fun c_2 => ?_) (fun c_2 => ?_)
    · have hf := gz_gT hf c_2
      refine gz_lload_n (pc := 74) dX1_waysToReturn_74 rfl rfl ?_
      exact gz_lrt (pc := 75) dX1_waysToReturn_75 rfl hf
    · have hf := gz_gF hf c_2
      refine gz_iload_n (pc := 14) dX1_waysToReturn_14 rfl rfl ?_
      refine gz_iload (pc := 15) dX1_waysToReturn_15 rfl ?_
      refine gz_ishr (pc := 17) dX1_waysToReturn_17 ?_
      refine gz_iconst (v := (1 : Int32)) (pc := 18) dX1_waysToReturn_18 rfl ?_
      refine gz_iand (pc := 19) dX1_waysToReturn_19 ?_
      refine gz_if_eq (tgt := 27) (pc := 20) dX1_waysToReturn_20 rfl (fun c_3 => ?_) (fun c_3 => ?_)
      · have hf := gz_gT hf c_3
        refine gz_iconst (v := (0 : Int32)) (pc := 27) dX1_waysToReturn_27 rfl ?_
        exact sX1_waysToReturn_28 ih a0 x1 x2 x3 x5 (0 : Int32) h hf
      · have hf := gz_gF hf c_3
        refine gz_iconst (v := (1 : Int32)) (pc := 23) dX1_waysToReturn_23 rfl ?_
        refine gz_goto (tgt := 28) (pc := 24) dX1_waysToReturn_24 rfl ?_
        exact sX1_waysToReturn_28 ih a0 x1 x2 x3 x5 (1 : Int32) h hf
def fX1_waysToReturn_0  (a0 : Nat) (x1 : Int32) (x2 : Int32) (h : gz_H) : Option (Int64 × gz_H) :=
    fX1_waysToReturn_5 gz_fu a0 x1 x2 (1 : Int64) (0 : Int32) h
set_option maxRecDepth 100000 in
set_option maxHeartbeats 1000000 in
theorem sX1_waysToReturn_0 {G : gz_G} {d l0 s0 : Nat} {Q : Int64 → gz_H → Prop} (a0 : Nat) (x1 : Int32) (x2 : Int32) (h : gz_H) (hf : gz_g (fX1_waysToReturn_0  a0 x1 x2 h) Q) : gz_Ok G mX1_waysToReturn (d + 0, l0, s0, 0, 0) 0 [.ref a0, .int x1, .int x2, .retAddr 0, .retAddr 0, .retAddr 0, .retAddr 0] [] h (gz_ql Q) := by
  unfold fX1_waysToReturn_0 at hf
  refine gz_lconst (v := (1 : Int64)) (pc := 0) dX1_waysToReturn_0 rfl ?_
  refine gz_lstore_n (lv := [.ref a0, .int x1, .int x2, .long (1 : Int64), .retAddr 0, .retAddr 0, .retAddr 0]) (pc := 1) dX1_waysToReturn_1 rfl (by decide) rfl ?_
  refine gz_iconst (v := (0 : Int32)) (pc := 2) dX1_waysToReturn_2 rfl ?_
  refine gz_istore (lv := [.ref a0, .int x1, .int x2, .long (1 : Int64), .retAddr 0, .int (0 : Int32), .retAddr 0]) (pc := 3) dX1_waysToReturn_3 (by decide) rfl ?_
  exact sX1_waysToReturn_5 gz_fu a0 x1 x2 (1 : Int64) (0 : Int32) h hf
def fX1_waysToReturn (a0 : Nat) (x1 : Int32) (x2 : Int32) (h : gz_H) : Option (Int64 × gz_H) := fX1_waysToReturn_0 a0 x1 x2 h
theorem sX1_waysToReturn {G : gz_G} {d : Nat} {a0 : Nat} {x1 : Int32} {x2 : Int32} {h : gz_H} {Q : Int64 → gz_H → Prop} (hf : gz_g (fX1_waysToReturn a0 x1 x2 h) Q) : gz_Cl G mX1_waysToReturn (d + 0) 0 0 [.ref a0, .int x1, .int x2] h (gz_ql Q) := gz_cl_of (lo := [.ref a0, .int x1, .int x2, .retAddr 0, .retAddr 0, .retAddr 0, .retAddr 0]) (by decide) rfl rfl (Nat.le_of_ble_eq_true rfl) (sX1_waysToReturn_0 a0 x1 x2 h hf)
theorem dX2_answer_0 : decode cX2_answer 0 = .ok (.iload_n 1, 1) := by decide +kernel
theorem dX2_answer_1 : decode cX2_answer 1 = .ok (.tableswitch 69 0 5 #[39, 44, 49, 54, 59, 64], 39) := by decide +kernel
theorem dX2_answer_40 : decode cX2_answer 40 = .ok (.aload_n 0, 1) := by decide +kernel
theorem dX2_answer_41 : decode cX2_answer 41 = .ok (.getfield 15, 3) := by decide +kernel
theorem dX2_answer_44 : decode cX2_answer 44 = .ok (.ireturn, 1) := by decide +kernel
theorem dX2_answer_45 : decode cX2_answer 45 = .ok (.aload_n 0, 1) := by decide +kernel
theorem dX2_answer_46 : decode cX2_answer 46 = .ok (.getfield 19, 3) := by decide +kernel
theorem dX2_answer_49 : decode cX2_answer 49 = .ok (.ireturn, 1) := by decide +kernel
theorem dX2_answer_50 : decode cX2_answer 50 = .ok (.aload_n 0, 1) := by decide +kernel
theorem dX2_answer_51 : decode cX2_answer 51 = .ok (.getfield 22, 3) := by decide +kernel
theorem dX2_answer_54 : decode cX2_answer 54 = .ok (.ireturn, 1) := by decide +kernel
theorem dX2_answer_55 : decode cX2_answer 55 = .ok (.aload_n 0, 1) := by decide +kernel
theorem dX2_answer_56 : decode cX2_answer 56 = .ok (.invokevirtual 46, 3) := by decide +kernel
theorem dX2_answer_59 : decode cX2_answer 59 = .ok (.ireturn, 1) := by decide +kernel
theorem dX2_answer_60 : decode cX2_answer 60 = .ok (.aload_n 0, 1) := by decide +kernel
theorem dX2_answer_61 : decode cX2_answer 61 = .ok (.invokevirtual 50, 3) := by decide +kernel
theorem dX2_answer_64 : decode cX2_answer 64 = .ok (.ireturn, 1) := by decide +kernel
theorem dX2_answer_65 : decode cX2_answer 65 = .ok (.aload_n 0, 1) := by decide +kernel
theorem dX2_answer_66 : decode cX2_answer 66 = .ok (.invokevirtual 53, 3) := by decide +kernel
theorem dX2_answer_69 : decode cX2_answer 69 = .ok (.ireturn, 1) := by decide +kernel
theorem dX2_answer_70 : decode cX2_answer 70 = .ok (.aload_n 0, 1) := by decide +kernel
theorem dX2_answer_71 : decode cX2_answer 71 = .ok (.getfield 28, 3) := by decide +kernel
theorem dX2_answer_74 : decode cX2_answer 74 = .ok (.ifCond .eq 7, 3) := by decide +kernel
theorem dX2_answer_77 : decode cX2_answer 77 = .ok (.iconst 1, 1) := by decide +kernel
theorem dX2_answer_78 : decode cX2_answer 78 = .ok (.goto 4, 3) := by decide +kernel
theorem dX2_answer_81 : decode cX2_answer 81 = .ok (.iconst 0, 1) := by decide +kernel
theorem dX2_answer_82 : decode cX2_answer 82 = .ok (.ireturn, 1) := by decide +kernel
def fX2_answer_0  (a0 : Nat) (x1 : Int32) (h : gz_H) : Option (Int32 × gz_H) :=
    if x1 = (0 : Int32) then (
     gz_ck (gz_sh h a0 2 6) <|
     some (h.2.1 a0 2, h)
    ) else (
    if x1 = (1 : Int32) then (
     gz_ck (gz_sh h a0 2 6) <|
     some (h.2.1 a0 3, h)
    ) else (
    if x1 = (2 : Int32) then (
     gz_ck (gz_sh h a0 2 6) <|
     some (h.2.1 a0 4, h)
    ) else (
    if x1 = (3 : Int32) then (
     gz_ck (gz_sh h a0 2 6) <|
     gz_b2 (fX2_set a0 h) fun y_9 h_8 =>
     some (y_9, h_8)
    ) else (
    if x1 = (4 : Int32) then (
     gz_ck (gz_sh h a0 2 6) <|
     gz_b2 (fX2_newest a0 h) fun y_13 h_12 =>
     some (y_13, h_12)
    ) else (
    if x1 = (5 : Int32) then (
     gz_ck (gz_sh h a0 2 6) <|
     gz_b2 (fX2_oldest a0 h) fun y_17 h_16 =>
     some (y_17, h_16)
    ) else (
    gz_ck (gz_sh h a0 2 6) <|
    if (h.2.1 a0 5) = 0 then (
     some ((0 : Int32), h)
    ) else (
     some ((1 : Int32), h)
    )
    ))))))
set_option maxRecDepth 100000 in
set_option maxHeartbeats 1000000 in
theorem sX2_answer_0 {G : gz_G} {d l0 s0 : Nat} {Q : Int32 → gz_H → Prop} (a0 : Nat) (x1 : Int32) (h : gz_H) (hf : gz_g (fX2_answer_0  a0 x1 h) Q) : gz_Ok G mX2_answer (d + 1, l0, s0, 0, 0) 0 [.ref a0, .int x1] [] h (gz_qi Q) := by
  unfold fX2_answer_0 at hf
  refine gz_iload_n (pc := 0) dX2_answer_0 rfl rfl ?_
  by_cases c_1 : x1 = (0 : Int32)
  · have hf := gz_gT hf c_1
    refine gz_tIn (off := 39) (tgt := 40) (pc := 1) dX2_answer_1 (by rw [c_1]; decide) (by rw [c_1]; decide) (by rw [c_1]; decide) rfl ?_
    refine gz_aload_n (pc := 40) dX2_answer_40 rfl rfl ?_
    refine gz_gk hf (fun c_2 hf => ?_)
    refine gz_getI (pc := 41) dX2_answer_41 fl_RX2_15 rfl (gz_shs c_2) ?_
    exact gz_irt (pc := 44) dX2_answer_44 rfl rfl hf
  have hf := gz_gF hf c_1
  by_cases c_3 : x1 = (1 : Int32)
  · have hf := gz_gT hf c_3
    refine gz_tIn (off := 44) (tgt := 45) (pc := 1) dX2_answer_1 (by rw [c_3]; decide) (by rw [c_3]; decide) (by rw [c_3]; decide) rfl ?_
    refine gz_aload_n (pc := 45) dX2_answer_45 rfl rfl ?_
    refine gz_gk hf (fun c_4 hf => ?_)
    refine gz_getI (pc := 46) dX2_answer_46 fl_RX2_19 rfl (gz_shs c_4) ?_
    exact gz_irt (pc := 49) dX2_answer_49 rfl rfl hf
  have hf := gz_gF hf c_3
  by_cases c_5 : x1 = (2 : Int32)
  · have hf := gz_gT hf c_5
    refine gz_tIn (off := 49) (tgt := 50) (pc := 1) dX2_answer_1 (by rw [c_5]; decide) (by rw [c_5]; decide) (by rw [c_5]; decide) rfl ?_
    refine gz_aload_n (pc := 50) dX2_answer_50 rfl rfl ?_
    refine gz_gk hf (fun c_6 hf => ?_)
    refine gz_getI (pc := 51) dX2_answer_51 fl_RX2_22 rfl (gz_shs c_6) ?_
    exact gz_irt (pc := 54) dX2_answer_54 rfl rfl hf
  have hf := gz_gF hf c_5
  by_cases c_7 : x1 = (3 : Int32)
  · have hf := gz_gT hf c_7
    refine gz_tIn (off := 54) (tgt := 55) (pc := 1) dX2_answer_1 (by rw [c_7]; decide) (by rw [c_7]; decide) (by rw [c_7]; decide) rfl ?_
    refine gz_aload_n (pc := 55) dX2_answer_55 rfl rfl ?_
    refine gz_gk hf (fun c_10 hf => ?_)
    refine gz_cVI (av := []) (st := []) (pc := 56) dX2_answer_56 kl_RX2_46 rfl (gz_shs c_10) rfl rfl (Nat.le_of_ble_eq_true rfl) (by show d + 0 + 0 + 1 ≤ d + 1; omega) (sX2_set (d := d + 0) (gz_gc hf)) (fun y_9 h_8 hf => ?_)
    exact gz_irt (pc := 59) dX2_answer_59 rfl rfl hf
  have hf := gz_gF hf c_7
  by_cases c_11 : x1 = (4 : Int32)
  · have hf := gz_gT hf c_11
    refine gz_tIn (off := 59) (tgt := 60) (pc := 1) dX2_answer_1 (by rw [c_11]; decide) (by rw [c_11]; decide) (by rw [c_11]; decide) rfl ?_
    refine gz_aload_n (pc := 60) dX2_answer_60 rfl rfl ?_
    refine gz_gk hf (fun c_14 hf => ?_)
    refine gz_cVI (av := []) (st := []) (pc := 61) dX2_answer_61 kl_RX2_50 rfl (gz_shs c_14) rfl rfl (Nat.le_of_ble_eq_true rfl) (by show d + 0 + 0 + 1 ≤ d + 1; omega) (sX2_newest (d := d + 0) (gz_gc hf)) (fun y_13 h_12 hf => ?_)
    exact gz_irt (pc := 64) dX2_answer_64 rfl rfl hf
  have hf := gz_gF hf c_11
  by_cases c_15 : x1 = (5 : Int32)
  · have hf := gz_gT hf c_15
    refine gz_tIn (off := 64) (tgt := 65) (pc := 1) dX2_answer_1 (by rw [c_15]; decide) (by rw [c_15]; decide) (by rw [c_15]; decide) rfl ?_
    refine gz_aload_n (pc := 65) dX2_answer_65 rfl rfl ?_
    refine gz_gk hf (fun c_18 hf => ?_)
    refine gz_cVI (av := []) (st := []) (pc := 66) dX2_answer_66 kl_RX2_53 rfl (gz_shs c_18) rfl rfl (Nat.le_of_ble_eq_true rfl) (by show d + 0 + 0 + 1 ≤ d + 1; omega) (sX2_oldest (d := d + 0) (gz_gc hf)) (fun y_17 h_16 hf => ?_)
    exact gz_irt (pc := 69) dX2_answer_69 rfl rfl hf
  have hf := gz_gF hf c_15
  refine gz_tOut (tgt := 70) (pc := 1) dX2_answer_1 (gz_tout 6 (fun k hk => match k, hk with | 0, _ => c_1 | 1, _ => c_3 | 2, _ => c_5 | 3, _ => c_7 | 4, _ => c_11 | 5, _ => c_15 | k + 6, hk => absurd hk (by omega))) rfl ?_
  refine gz_aload_n (pc := 70) dX2_answer_70 rfl rfl ?_
  refine gz_gk hf (fun c_19 hf => ?_)
  refine gz_getI (pc := 71) dX2_answer_71 fl_RX2_28 rfl (gz_shs c_19) ?_
  refine gz_if_eq (tgt := 81) (pc := 74) dX2_answer_74 rfl (fun c_20 => ?_) (fun c_20 => ?_)
  · have hf := gz_gT hf c_20
    refine gz_iconst (v := (0 : Int32)) (pc := 81) dX2_answer_81 rfl ?_
    exact gz_irt (pc := 82) dX2_answer_82 rfl rfl hf
  · have hf := gz_gF hf c_20
    refine gz_iconst (v := (1 : Int32)) (pc := 77) dX2_answer_77 rfl ?_
    refine gz_goto (tgt := 82) (pc := 78) dX2_answer_78 rfl ?_
    exact gz_irt (pc := 82) dX2_answer_82 rfl rfl hf
def fX2_answer (a0 : Nat) (x1 : Int32) (h : gz_H) : Option (Int32 × gz_H) := fX2_answer_0 a0 x1 h
theorem sX2_answer {G : gz_G} {d : Nat} {a0 : Nat} {x1 : Int32} {h : gz_H} {Q : Int32 → gz_H → Prop} (hf : gz_g (fX2_answer a0 x1 h) Q) : gz_Cl G mX2_answer (d + 1) 0 0 [.ref a0, .int x1] h (gz_qi Q) := gz_cl_of (lo := [.ref a0, .int x1]) (by decide) rfl rfl (Nat.le_of_ble_eq_true rfl) (sX2_answer_0 a0 x1 h hf)
theorem dX2_digestFrom_0 : decode cX2_digestFrom 0 = .ok (.lload_n 1, 1) := by decide +kernel
theorem dX2_digestFrom_1 : decode cX2_digestFrom 1 = .ok (.lstore_n 3, 1) := by decide +kernel
theorem dX2_digestFrom_2 : decode cX2_digestFrom 2 = .ok (.iconst 0, 1) := by decide +kernel
theorem dX2_digestFrom_3 : decode cX2_digestFrom 3 = .ok (.istore 5, 2) := by decide +kernel
theorem dX2_digestFrom_5 : decode cX2_digestFrom 5 = .ok (.iload 5, 2) := by decide +kernel
theorem dX2_digestFrom_7 : decode cX2_digestFrom 7 = .ok (.bipush 7, 2) := by decide +kernel
theorem dX2_digestFrom_9 : decode cX2_digestFrom 9 = .ok (.if_icmp .ge 23, 3) := by decide +kernel
theorem dX2_digestFrom_12 : decode cX2_digestFrom 12 = .ok (.ldc2_w 72, 3) := by decide +kernel
theorem dX2_digestFrom_15 : decode cX2_digestFrom 15 = .ok (.lload_n 3, 1) := by decide +kernel
theorem dX2_digestFrom_16 : decode cX2_digestFrom 16 = .ok (.lmul, 1) := by decide +kernel
theorem dX2_digestFrom_17 : decode cX2_digestFrom 17 = .ok (.aload_n 0, 1) := by decide +kernel
theorem dX2_digestFrom_18 : decode cX2_digestFrom 18 = .ok (.iload 5, 2) := by decide +kernel
theorem dX2_digestFrom_20 : decode cX2_digestFrom 20 = .ok (.invokevirtual 74, 3) := by decide +kernel
theorem dX2_digestFrom_23 : decode cX2_digestFrom 23 = .ok (.i2l, 1) := by decide +kernel
theorem dX2_digestFrom_24 : decode cX2_digestFrom 24 = .ok (.ladd, 1) := by decide +kernel
theorem dX2_digestFrom_25 : decode cX2_digestFrom 25 = .ok (.lstore_n 3, 1) := by decide +kernel
theorem dX2_digestFrom_26 : decode cX2_digestFrom 26 = .ok (.iinc 5 1, 3) := by decide +kernel
theorem dX2_digestFrom_29 : decode cX2_digestFrom 29 = .ok (.goto (-24), 3) := by decide +kernel
theorem dX2_digestFrom_32 : decode cX2_digestFrom 32 = .ok (.iconst 0, 1) := by decide +kernel
theorem dX2_digestFrom_33 : decode cX2_digestFrom 33 = .ok (.istore 5, 2) := by decide +kernel
theorem dX2_digestFrom_35 : decode cX2_digestFrom 35 = .ok (.iload 5, 2) := by decide +kernel
theorem dX2_digestFrom_37 : decode cX2_digestFrom 37 = .ok (.aload_n 0, 1) := by decide +kernel
theorem dX2_digestFrom_38 : decode cX2_digestFrom 38 = .ok (.getfield 25, 3) := by decide +kernel
theorem dX2_digestFrom_41 : decode cX2_digestFrom 41 = .ok (.if_icmp .ge 24, 3) := by decide +kernel
theorem dX2_digestFrom_44 : decode cX2_digestFrom 44 = .ok (.ldc2_w 72, 3) := by decide +kernel
theorem dX2_digestFrom_47 : decode cX2_digestFrom 47 = .ok (.lload_n 3, 1) := by decide +kernel
theorem dX2_digestFrom_48 : decode cX2_digestFrom 48 = .ok (.lmul, 1) := by decide +kernel
theorem dX2_digestFrom_49 : decode cX2_digestFrom 49 = .ok (.aload_n 0, 1) := by decide +kernel
theorem dX2_digestFrom_50 : decode cX2_digestFrom 50 = .ok (.getfield 9, 3) := by decide +kernel
theorem dX2_digestFrom_53 : decode cX2_digestFrom 53 = .ok (.iload 5, 2) := by decide +kernel
theorem dX2_digestFrom_55 : decode cX2_digestFrom 55 = .ok (.iaload, 1) := by decide +kernel
theorem dX2_digestFrom_56 : decode cX2_digestFrom 56 = .ok (.i2l, 1) := by decide +kernel
theorem dX2_digestFrom_57 : decode cX2_digestFrom 57 = .ok (.ladd, 1) := by decide +kernel
theorem dX2_digestFrom_58 : decode cX2_digestFrom 58 = .ok (.lstore_n 3, 1) := by decide +kernel
theorem dX2_digestFrom_59 : decode cX2_digestFrom 59 = .ok (.iinc 5 1, 3) := by decide +kernel
theorem dX2_digestFrom_62 : decode cX2_digestFrom 62 = .ok (.goto (-27), 3) := by decide +kernel
theorem dX2_digestFrom_65 : decode cX2_digestFrom 65 = .ok (.lload_n 3, 1) := by decide +kernel
theorem dX2_digestFrom_66 : decode cX2_digestFrom 66 = .ok (.lreturn, 1) := by decide +kernel
def fX2_digestFrom_35  : Nat → Nat → Int64 → Int32 → gz_H → Option (Int64 × gz_H)
  | 0, _, _, _, _ => none
  | n + 1, a0, x3, x5, h =>
    gz_ck (gz_sh h a0 2 6) <|
    if (h.2.1 a0 1) ≤ x5 then (
     some (x3, h)
    ) else (
     gz_br (h.2.2.2 a0 0) fun r_3 =>
     gz_ck (gz_inb h r_3 10 x5) <|
     gz_lt (((31 : Int64) * x3) + ((h.2.1 r_3 x5.toNatClampNeg).toInt64)) fun (y_5 : Int64) =>
     fX2_digestFrom_35 n a0 y_5 (x5 + 1) h
    )
set_option maxRecDepth 100000 in
set_option maxHeartbeats 1000000 in
theorem sX2_digestFrom_35 {G : gz_G} {d l0 s0 : Nat} {Q : Int64 → gz_H → Prop} : ∀ (n : Nat) (a0 : Nat) (x3 : Int64) (x5 : Int32) (h : gz_H), gz_g (fX2_digestFrom_35  n a0 x3 x5 h) Q → gz_Ok G mX2_digestFrom (d + 2, l0, s0, 0, 0) 35 [.ref a0, .retAddr 0, .retAddr 0, .long x3, .retAddr 0, .int x5] [] h (gz_ql Q) := by
  intro n
  induction n with
  | zero => intro a0 x3 x5 h hf; exact False.elim hf
  | succ n ih =>
    intro a0 x3 x5 h hf
    rw [fX2_digestFrom_35] at hf
    refine gz_iload (pc := 35) dX2_digestFrom_35 rfl ?_
    refine gz_aload_n (pc := 37) dX2_digestFrom_37 rfl rfl ?_
    refine gz_gk hf (fun c_1 hf => ?_)
    refine gz_getI (pc := 38) dX2_digestFrom_38 fl_RX2_25 rfl (gz_shs c_1) ?_
    refine gz_icmp_ge (tgt := 65) (pc := 41) dX2_digestFrom_41 rfl (fun c_2 => ?_) (fun c_2 => ?_)
    · have hf := gz_gT hf c_2
      refine gz_lload_n (pc := 65) dX2_digestFrom_65 rfl rfl ?_
      exact gz_lrt (pc := 66) dX2_digestFrom_66 rfl hf
    · have hf := gz_gF hf c_2
      refine gz_ldc2 (v := (31 : Int64)) (pc := 44) dX2_digestFrom_44 kc_RX2_72 ?_
      refine gz_lload_n (pc := 47) dX2_digestFrom_47 rfl rfl ?_
      refine gz_lmul (pc := 48) dX2_digestFrom_48 ?_
      refine gz_aload_n (pc := 49) dX2_digestFrom_49 rfl rfl ?_
      refine gz_gb hf (fun r_3 er_3 hf => ?_)
      refine gz_getR (pc := 50) dX2_digestFrom_50 fl_RX2_9 rfl (gz_shs c_1) er_3 ?_
      refine gz_iload (pc := 53) dX2_digestFrom_53 rfl ?_
      refine gz_gk hf (fun c_4 hf => ?_)
      refine gz_iald (pc := 55) dX2_digestFrom_55 c_4 ?_
      refine gz_i2l (pc := 56) dX2_digestFrom_56 ?_
      refine gz_ladd (pc := 57) dX2_digestFrom_57 ?_
      refine gz_nmL (fun y_5 ey_5 => ?_)
      have hf := gz_gl ey_5 hf
      refine gz_lstore_n (lv := [.ref a0, .retAddr 0, .retAddr 0, .long y_5, .retAddr 0, .int x5]) (pc := 58) dX2_digestFrom_58 rfl (by decide) rfl ?_
      refine gz_iinc (v := x5 + 1) (lv := [.ref a0, .retAddr 0, .retAddr 0, .long y_5, .retAddr 0, .int (x5 + 1)]) (pc := 59) dX2_digestFrom_59 rfl rfl (by decide) rfl ?_
      refine gz_goto (tgt := 35) (pc := 62) dX2_digestFrom_62 rfl ?_
      exact ih a0 y_5 (x5 + 1) h hf
def fX2_digestFrom_5  : Nat → Nat → Int64 → Int32 → gz_H → Option (Int64 × gz_H)
  | 0, _, _, _, _ => none
  | n + 1, a0, x3, x5, h =>
    if (7 : Int32) ≤ x5 then (
     fX2_digestFrom_35 gz_fu a0 x3 (0 : Int32) h
    ) else (
     gz_ck (gz_sh h a0 2 6) <|
     gz_b2 (fX2_answer a0 x5 h) fun y_3 h_2 =>
     fX2_digestFrom_5 n a0 (((31 : Int64) * x3) + y_3.toInt64) (x5 + 1) h_2
    )
set_option maxRecDepth 100000 in
set_option maxHeartbeats 1000000 in
theorem sX2_digestFrom_5 {G : gz_G} {d l0 s0 : Nat} {Q : Int64 → gz_H → Prop} : ∀ (n : Nat) (a0 : Nat) (x3 : Int64) (x5 : Int32) (h : gz_H), gz_g (fX2_digestFrom_5  n a0 x3 x5 h) Q → gz_Ok G mX2_digestFrom (d + 2, l0, s0, 0, 0) 5 [.ref a0, .retAddr 0, .retAddr 0, .long x3, .retAddr 0, .int x5] [] h (gz_ql Q) := by
  intro n
  induction n with
  | zero => intro a0 x3 x5 h hf; exact False.elim hf
  | succ n ih =>
    intro a0 x3 x5 h hf
    rw [fX2_digestFrom_5] at hf
    refine gz_iload (pc := 5) dX2_digestFrom_5 rfl ?_
    refine gz_bipush (v := (7 : Int32)) (pc := 7) dX2_digestFrom_7 rfl ?_
    refine gz_icmp_ge (tgt := 32) (pc := 9) dX2_digestFrom_9 rfl (fun c_1 => ?_) (fun c_1 => ?_)
    · have hf := gz_gT hf c_1
      refine gz_iconst (v := (0 : Int32)) (pc := 32) dX2_digestFrom_32 rfl ?_
      refine gz_istore (lv := [.ref a0, .retAddr 0, .retAddr 0, .long x3, .retAddr 0, .int (0 : Int32)]) (pc := 33) dX2_digestFrom_33 (by decide) rfl ?_
      exact sX2_digestFrom_35 gz_fu a0 x3 (0 : Int32) h hf
    · have hf := gz_gF hf c_1
      refine gz_ldc2 (v := (31 : Int64)) (pc := 12) dX2_digestFrom_12 kc_RX2_72 ?_
      refine gz_lload_n (pc := 15) dX2_digestFrom_15 rfl rfl ?_
      refine gz_lmul (pc := 16) dX2_digestFrom_16 ?_
      refine gz_aload_n (pc := 17) dX2_digestFrom_17 rfl rfl ?_
      refine gz_iload (pc := 18) dX2_digestFrom_18 rfl ?_
      refine gz_gk hf (fun c_4 hf => ?_)
      refine gz_cVI (av := [.int x5]) (st := [.long ((31 : Int64) * x3)]) (pc := 20) dX2_digestFrom_20 kl_RX2_74 rfl (gz_shs c_4) rfl rfl (Nat.le_of_ble_eq_true rfl) (by show d + 0 + 1 + 1 ≤ d + 2; omega) (sX2_answer (d := d + 0) (gz_gc hf)) (fun y_3 h_2 hf => ?_)
      refine gz_i2l (pc := 23) dX2_digestFrom_23 ?_
      refine gz_ladd (pc := 24) dX2_digestFrom_24 ?_
      refine gz_lstore_n (lv := [.ref a0, .retAddr 0, .retAddr 0, .long (((31 : Int64) * x3) + y_3.toInt64), .retAddr 0, .int x5]) (pc := 25) dX2_digestFrom_25 rfl (by decide) rfl ?_
      refine gz_iinc (v := x5 + 1) (lv := [.ref a0, .retAddr 0, .retAddr 0, .long (((31 : Int64) * x3) + y_3.toInt64), .retAddr 0, .int (x5 + 1)]) (pc := 26) dX2_digestFrom_26 rfl rfl (by decide) rfl ?_
      refine gz_goto (tgt := 5) (pc := 29) dX2_digestFrom_29 rfl ?_
      exact ih a0 (((31 : Int64) * x3) + y_3.toInt64) (x5 + 1) h_2 hf
def fX2_digestFrom_0  (a0 : Nat) (x1 : Int64) (h : gz_H) : Option (Int64 × gz_H) :=
    fX2_digestFrom_5 gz_fu a0 x1 (0 : Int32) h
set_option maxRecDepth 100000 in
set_option maxHeartbeats 1000000 in
theorem sX2_digestFrom_0 {G : gz_G} {d l0 s0 : Nat} {Q : Int64 → gz_H → Prop} (a0 : Nat) (x1 : Int64) (h : gz_H) (hf : gz_g (fX2_digestFrom_0  a0 x1 h) Q) : gz_Ok G mX2_digestFrom (d + 2, l0, s0, 0, 0) 0 [.ref a0, .long x1, .retAddr 0, .retAddr 0, .retAddr 0, .retAddr 0] [] h (gz_ql Q) := by
  unfold fX2_digestFrom_0 at hf
  refine gz_lload_n (pc := 0) dX2_digestFrom_0 rfl rfl ?_
  refine gz_lstore_n (lv := [.ref a0, .long x1, .retAddr 0, .long x1, .retAddr 0, .retAddr 0]) (pc := 1) dX2_digestFrom_1 rfl (by decide) rfl ?_
  refine gz_iconst (v := (0 : Int32)) (pc := 2) dX2_digestFrom_2 rfl ?_
  refine gz_istore (lv := [.ref a0, .long x1, .retAddr 0, .long x1, .retAddr 0, .int (0 : Int32)]) (pc := 3) dX2_digestFrom_3 (by decide) rfl ?_
  refine gz_fg (lv := [.ref a0, .retAddr 0, .retAddr 0, .long x1, .retAddr 0, .int (0 : Int32)]) ⟨Or.inr rfl, ⟨Or.inl rfl, ⟨Or.inl rfl, ⟨Or.inr rfl, ⟨Or.inl rfl, ⟨Or.inr rfl, trivial⟩⟩⟩⟩⟩⟩ ?_
  exact sX2_digestFrom_5 gz_fu a0 x1 (0 : Int32) h hf
def fX2_digestFrom (a0 : Nat) (x1 : Int64) (h : gz_H) : Option (Int64 × gz_H) := fX2_digestFrom_0 a0 x1 h
theorem sX2_digestFrom {G : gz_G} {d : Nat} {a0 : Nat} {x1 : Int64} {h : gz_H} {Q : Int64 → gz_H → Prop} (hf : gz_g (fX2_digestFrom a0 x1 h) Q) : gz_Cl G mX2_digestFrom (d + 2) 0 0 [.ref a0, .long x1] h (gz_ql Q) := gz_cl_of (lo := [.ref a0, .long x1, .retAddr 0, .retAddr 0, .retAddr 0, .retAddr 0]) (by decide) rfl rfl (Nat.le_of_ble_eq_true rfl) (sX2_digestFrom_0 a0 x1 h hf)
theorem dX1_digestFrom_0 : decode cX1_digestFrom 0 = .ok (.lload_n 1, 1) := by decide +kernel
theorem dX1_digestFrom_1 : decode cX1_digestFrom 1 = .ok (.lstore_n 3, 1) := by decide +kernel
theorem dX1_digestFrom_2 : decode cX1_digestFrom 2 = .ok (.iconst 0, 1) := by decide +kernel
theorem dX1_digestFrom_3 : decode cX1_digestFrom 3 = .ok (.istore 5, 2) := by decide +kernel
theorem dX1_digestFrom_5 : decode cX1_digestFrom 5 = .ok (.iload 5, 2) := by decide +kernel
theorem dX1_digestFrom_7 : decode cX1_digestFrom 7 = .ok (.aload_n 0, 1) := by decide +kernel
theorem dX1_digestFrom_8 : decode cX1_digestFrom 8 = .ok (.getfield 28, 3) := by decide +kernel
theorem dX1_digestFrom_11 : decode cX1_digestFrom 11 = .ok (.if_icmp .ge 24, 3) := by decide +kernel
theorem dX1_digestFrom_14 : decode cX1_digestFrom 14 = .ok (.ldc2_w 125, 3) := by decide +kernel
theorem dX1_digestFrom_17 : decode cX1_digestFrom 17 = .ok (.lload_n 3, 1) := by decide +kernel
theorem dX1_digestFrom_18 : decode cX1_digestFrom 18 = .ok (.lmul, 1) := by decide +kernel
theorem dX1_digestFrom_19 : decode cX1_digestFrom 19 = .ok (.aload_n 0, 1) := by decide +kernel
theorem dX1_digestFrom_20 : decode cX1_digestFrom 20 = .ok (.getfield 9, 3) := by decide +kernel
theorem dX1_digestFrom_23 : decode cX1_digestFrom 23 = .ok (.iload 5, 2) := by decide +kernel
theorem dX1_digestFrom_25 : decode cX1_digestFrom 25 = .ok (.iaload, 1) := by decide +kernel
theorem dX1_digestFrom_26 : decode cX1_digestFrom 26 = .ok (.i2l, 1) := by decide +kernel
theorem dX1_digestFrom_27 : decode cX1_digestFrom 27 = .ok (.ladd, 1) := by decide +kernel
theorem dX1_digestFrom_28 : decode cX1_digestFrom 28 = .ok (.lstore_n 3, 1) := by decide +kernel
theorem dX1_digestFrom_29 : decode cX1_digestFrom 29 = .ok (.iinc 5 1, 3) := by decide +kernel
theorem dX1_digestFrom_32 : decode cX1_digestFrom 32 = .ok (.goto (-27), 3) := by decide +kernel
theorem dX1_digestFrom_35 : decode cX1_digestFrom 35 = .ok (.iconst 0, 1) := by decide +kernel
theorem dX1_digestFrom_36 : decode cX1_digestFrom 36 = .ok (.istore 5, 2) := by decide +kernel
theorem dX1_digestFrom_38 : decode cX1_digestFrom 38 = .ok (.iload 5, 2) := by decide +kernel
theorem dX1_digestFrom_40 : decode cX1_digestFrom 40 = .ok (.aload_n 0, 1) := by decide +kernel
theorem dX1_digestFrom_41 : decode cX1_digestFrom 41 = .ok (.getfield 32, 3) := by decide +kernel
theorem dX1_digestFrom_44 : decode cX1_digestFrom 44 = .ok (.if_icmp .ge 21, 3) := by decide +kernel
theorem dX1_digestFrom_47 : decode cX1_digestFrom 47 = .ok (.aload_n 0, 1) := by decide +kernel
theorem dX1_digestFrom_48 : decode cX1_digestFrom 48 = .ok (.getfield 17, 3) := by decide +kernel
theorem dX1_digestFrom_51 : decode cX1_digestFrom 51 = .ok (.iload 5, 2) := by decide +kernel
theorem dX1_digestFrom_53 : decode cX1_digestFrom 53 = .ok (.aaload, 1) := by decide +kernel
theorem dX1_digestFrom_54 : decode cX1_digestFrom 54 = .ok (.lload_n 3, 1) := by decide +kernel
theorem dX1_digestFrom_55 : decode cX1_digestFrom 55 = .ok (.invokevirtual 127, 3) := by decide +kernel
theorem dX1_digestFrom_58 : decode cX1_digestFrom 58 = .ok (.lstore_n 3, 1) := by decide +kernel
theorem dX1_digestFrom_59 : decode cX1_digestFrom 59 = .ok (.iinc 5 1, 3) := by decide +kernel
theorem dX1_digestFrom_62 : decode cX1_digestFrom 62 = .ok (.goto (-24), 3) := by decide +kernel
theorem dX1_digestFrom_65 : decode cX1_digestFrom 65 = .ok (.lload_n 3, 1) := by decide +kernel
theorem dX1_digestFrom_66 : decode cX1_digestFrom 66 = .ok (.lreturn, 1) := by decide +kernel
def fX1_digestFrom_38  : Nat → Nat → Int64 → Int32 → gz_H → Option (Int64 × gz_H)
  | 0, _, _, _, _ => none
  | n + 1, a0, x3, x5, h =>
    gz_ck (gz_sh h a0 1 4) <|
    if (h.2.1 a0 3) ≤ x5 then (
     some (x3, h)
    ) else (
     gz_br (h.2.2.2 a0 1) fun r_3 =>
     gz_ck (gz_inb h r_3 11 x5) <|
     gz_br (h.2.2.2 r_3 x5.toNatClampNeg) fun r_5 =>
     gz_ck (gz_sh h r_5 2 6) <|
     gz_b2 (fX2_digestFrom r_5 x3 h) fun y_7 h_6 =>
     fX1_digestFrom_38 n a0 y_7 (x5 + 1) h_6
    )
set_option maxRecDepth 100000 in
set_option maxHeartbeats 1000000 in
theorem sX1_digestFrom_38 {G : gz_G} {d l0 s0 : Nat} {Q : Int64 → gz_H → Prop} : ∀ (n : Nat) (a0 : Nat) (x3 : Int64) (x5 : Int32) (h : gz_H), gz_g (fX1_digestFrom_38  n a0 x3 x5 h) Q → gz_Ok G mX1_digestFrom (d + 3, l0, s0, 0, 0) 38 [.ref a0, .retAddr 0, .retAddr 0, .long x3, .retAddr 0, .int x5] [] h (gz_ql Q) := by
  intro n
  induction n with
  | zero => intro a0 x3 x5 h hf; exact False.elim hf
  | succ n ih =>
    intro a0 x3 x5 h hf
    rw [fX1_digestFrom_38] at hf
    refine gz_iload (pc := 38) dX1_digestFrom_38 rfl ?_
    refine gz_aload_n (pc := 40) dX1_digestFrom_40 rfl rfl ?_
    refine gz_gk hf (fun c_1 hf => ?_)
    refine gz_getI (pc := 41) dX1_digestFrom_41 fl_RX1_32 rfl (gz_shs c_1) ?_
    refine gz_icmp_ge (tgt := 65) (pc := 44) dX1_digestFrom_44 rfl (fun c_2 => ?_) (fun c_2 => ?_)
    · have hf := gz_gT hf c_2
      refine gz_lload_n (pc := 65) dX1_digestFrom_65 rfl rfl ?_
      exact gz_lrt (pc := 66) dX1_digestFrom_66 rfl hf
    · have hf := gz_gF hf c_2
      refine gz_aload_n (pc := 47) dX1_digestFrom_47 rfl rfl ?_
      refine gz_gb hf (fun r_3 er_3 hf => ?_)
      refine gz_getR (pc := 48) dX1_digestFrom_48 fl_RX1_17 rfl (gz_shs c_1) er_3 ?_
      refine gz_iload (pc := 51) dX1_digestFrom_51 rfl ?_
      refine gz_gk hf (fun c_4 hf => ?_)
      refine gz_gb hf (fun r_5 er_5 hf => ?_)
      refine gz_aald (Or.inl rfl) (pc := 53) dX1_digestFrom_53 c_4 er_5 ?_
      refine gz_lload_n (pc := 54) dX1_digestFrom_54 rfl rfl ?_
      refine gz_gk hf (fun c_8 hf => ?_)
      refine gz_cVL (av := [.long x3]) (st := []) (pc := 55) dX1_digestFrom_55 kl_RX1_127 rfl (gz_shs c_8) rfl rfl (Nat.le_of_ble_eq_true rfl) (by show d + 0 + 2 + 1 ≤ d + 3; omega) (sX2_digestFrom (d := d + 0) (gz_gc hf)) (fun y_7 h_6 hf => ?_)
      refine gz_lstore_n (lv := [.ref a0, .retAddr 0, .retAddr 0, .long y_7, .retAddr 0, .int x5]) (pc := 58) dX1_digestFrom_58 rfl (by decide) rfl ?_
      refine gz_iinc (v := x5 + 1) (lv := [.ref a0, .retAddr 0, .retAddr 0, .long y_7, .retAddr 0, .int (x5 + 1)]) (pc := 59) dX1_digestFrom_59 rfl rfl (by decide) rfl ?_
      refine gz_goto (tgt := 38) (pc := 62) dX1_digestFrom_62 rfl ?_
      exact ih a0 y_7 (x5 + 1) h_6 hf
def fX1_digestFrom_5  : Nat → Nat → Int64 → Int32 → gz_H → Option (Int64 × gz_H)
  | 0, _, _, _, _ => none
  | n + 1, a0, x3, x5, h =>
    gz_ck (gz_sh h a0 1 4) <|
    if (h.2.1 a0 2) ≤ x5 then (
     fX1_digestFrom_38 gz_fu a0 x3 (0 : Int32) h
    ) else (
     gz_br (h.2.2.2 a0 0) fun r_3 =>
     gz_ck (gz_inb h r_3 10 x5) <|
     gz_lt (((31 : Int64) * x3) + ((h.2.1 r_3 x5.toNatClampNeg).toInt64)) fun (y_5 : Int64) =>
     fX1_digestFrom_5 n a0 y_5 (x5 + 1) h
    )
set_option maxRecDepth 100000 in
set_option maxHeartbeats 1000000 in
theorem sX1_digestFrom_5 {G : gz_G} {d l0 s0 : Nat} {Q : Int64 → gz_H → Prop} : ∀ (n : Nat) (a0 : Nat) (x3 : Int64) (x5 : Int32) (h : gz_H), gz_g (fX1_digestFrom_5  n a0 x3 x5 h) Q → gz_Ok G mX1_digestFrom (d + 3, l0, s0, 0, 0) 5 [.ref a0, .retAddr 0, .retAddr 0, .long x3, .retAddr 0, .int x5] [] h (gz_ql Q) := by
  intro n
  induction n with
  | zero => intro a0 x3 x5 h hf; exact False.elim hf
  | succ n ih =>
    intro a0 x3 x5 h hf
    rw [fX1_digestFrom_5] at hf
    refine gz_iload (pc := 5) dX1_digestFrom_5 rfl ?_
    refine gz_aload_n (pc := 7) dX1_digestFrom_7 rfl rfl ?_
    refine gz_gk hf (fun c_1 hf => ?_)
    refine gz_getI (pc := 8) dX1_digestFrom_8 fl_RX1_28 rfl (gz_shs c_1) ?_
    refine gz_icmp_ge (tgt := 35) (pc := 11) dX1_digestFrom_11 rfl (fun c_2 => ?_) (fun c_2 => ?_)
    · have hf := gz_gT hf c_2
      refine gz_iconst (v := (0 : Int32)) (pc := 35) dX1_digestFrom_35 rfl ?_
      refine gz_istore (lv := [.ref a0, .retAddr 0, .retAddr 0, .long x3, .retAddr 0, .int (0 : Int32)]) (pc := 36) dX1_digestFrom_36 (by decide) rfl ?_
      exact sX1_digestFrom_38 gz_fu a0 x3 (0 : Int32) h hf
    · have hf := gz_gF hf c_2
      refine gz_ldc2 (v := (31 : Int64)) (pc := 14) dX1_digestFrom_14 kc_RX1_125 ?_
      refine gz_lload_n (pc := 17) dX1_digestFrom_17 rfl rfl ?_
      refine gz_lmul (pc := 18) dX1_digestFrom_18 ?_
      refine gz_aload_n (pc := 19) dX1_digestFrom_19 rfl rfl ?_
      refine gz_gb hf (fun r_3 er_3 hf => ?_)
      refine gz_getR (pc := 20) dX1_digestFrom_20 fl_RX1_9 rfl (gz_shs c_1) er_3 ?_
      refine gz_iload (pc := 23) dX1_digestFrom_23 rfl ?_
      refine gz_gk hf (fun c_4 hf => ?_)
      refine gz_iald (pc := 25) dX1_digestFrom_25 c_4 ?_
      refine gz_i2l (pc := 26) dX1_digestFrom_26 ?_
      refine gz_ladd (pc := 27) dX1_digestFrom_27 ?_
      refine gz_nmL (fun y_5 ey_5 => ?_)
      have hf := gz_gl ey_5 hf
      refine gz_lstore_n (lv := [.ref a0, .retAddr 0, .retAddr 0, .long y_5, .retAddr 0, .int x5]) (pc := 28) dX1_digestFrom_28 rfl (by decide) rfl ?_
      refine gz_iinc (v := x5 + 1) (lv := [.ref a0, .retAddr 0, .retAddr 0, .long y_5, .retAddr 0, .int (x5 + 1)]) (pc := 29) dX1_digestFrom_29 rfl rfl (by decide) rfl ?_
      refine gz_goto (tgt := 5) (pc := 32) dX1_digestFrom_32 rfl ?_
      exact ih a0 y_5 (x5 + 1) h hf
def fX1_digestFrom_0  (a0 : Nat) (x1 : Int64) (h : gz_H) : Option (Int64 × gz_H) :=
    fX1_digestFrom_5 gz_fu a0 x1 (0 : Int32) h
set_option maxRecDepth 100000 in
set_option maxHeartbeats 1000000 in
theorem sX1_digestFrom_0 {G : gz_G} {d l0 s0 : Nat} {Q : Int64 → gz_H → Prop} (a0 : Nat) (x1 : Int64) (h : gz_H) (hf : gz_g (fX1_digestFrom_0  a0 x1 h) Q) : gz_Ok G mX1_digestFrom (d + 3, l0, s0, 0, 0) 0 [.ref a0, .long x1, .retAddr 0, .retAddr 0, .retAddr 0, .retAddr 0] [] h (gz_ql Q) := by
  unfold fX1_digestFrom_0 at hf
  refine gz_lload_n (pc := 0) dX1_digestFrom_0 rfl rfl ?_
  refine gz_lstore_n (lv := [.ref a0, .long x1, .retAddr 0, .long x1, .retAddr 0, .retAddr 0]) (pc := 1) dX1_digestFrom_1 rfl (by decide) rfl ?_
  refine gz_iconst (v := (0 : Int32)) (pc := 2) dX1_digestFrom_2 rfl ?_
  refine gz_istore (lv := [.ref a0, .long x1, .retAddr 0, .long x1, .retAddr 0, .int (0 : Int32)]) (pc := 3) dX1_digestFrom_3 (by decide) rfl ?_
  refine gz_fg (lv := [.ref a0, .retAddr 0, .retAddr 0, .long x1, .retAddr 0, .int (0 : Int32)]) ⟨Or.inr rfl, ⟨Or.inl rfl, ⟨Or.inl rfl, ⟨Or.inr rfl, ⟨Or.inl rfl, ⟨Or.inr rfl, trivial⟩⟩⟩⟩⟩⟩ ?_
  exact sX1_digestFrom_5 gz_fu a0 x1 (0 : Int32) h hf
def fX1_digestFrom (a0 : Nat) (x1 : Int64) (h : gz_H) : Option (Int64 × gz_H) := fX1_digestFrom_0 a0 x1 h
theorem sX1_digestFrom {G : gz_G} {d : Nat} {a0 : Nat} {x1 : Int64} {h : gz_H} {Q : Int64 → gz_H → Prop} (hf : gz_g (fX1_digestFrom a0 x1 h) Q) : gz_Cl G mX1_digestFrom (d + 3) 0 0 [.ref a0, .long x1] h (gz_ql Q) := gz_cl_of (lo := [.ref a0, .long x1, .retAddr 0, .retAddr 0, .retAddr 0, .retAddr 0]) (by decide) rfl rfl (Nat.le_of_ble_eq_true rfl) (sX1_digestFrom_0 a0 x1 h hf)
theorem dX3_init_0 : decode cX3_init 0 = .ok (.aload_n 0, 1) := by decide +kernel
theorem dX3_init_1 : decode cX3_init 1 = .ok (.invokespecial 3, 3) := by decide +kernel
theorem dX3_init_4 : decode cX3_init 4 = .ok (.aload_n 0, 1) := by decide +kernel
theorem dX3_init_5 : decode cX3_init 5 = .ok (.bipush 40, 2) := by decide +kernel
theorem dX3_init_7 : decode cX3_init 7 = .ok (.newarray .int, 2) := by decide +kernel
theorem dX3_init_9 : decode cX3_init 9 = .ok (.putfield 9, 3) := by decide +kernel
theorem dX3_init_12 : decode cX3_init 12 = .ok (.return_, 1) := by decide +kernel
def fX3_init_0 (l0 s0 mc ms : Nat) (a0 : Nat) (h : gz_H) : Option (Unit × gz_H) :=
    gz_ck (gz_dc (¬ (40 : Int32) < 0 ∧ h.1.length < 999999 ∧ (40 : Int32).toNatClampNeg ≤ 100000 ∧ (h.1.length + 1 ≤ l0 + mc ∧ gz_ss h.1 + (40 : Int32).toNatClampNeg ≤ s0 + ms))) <|
    gz_lt (gz_al h (10, (40 : Int32).toNatClampNeg)) fun h_2 =>
    gz_ck (gz_sh h_2 a0 3 2) <|
    gz_lt (uR h_2 a0 0 (some h.1.length)) fun h_4 =>
    gz_ck (gz_dc (l0 + mc = h_4.1.length ∧ s0 + ms = gz_ss h_4.1)) <|
    some ((), h_4)
set_option maxRecDepth 100000 in
set_option maxHeartbeats 1000000 in
theorem sX3_init_0 {G : gz_G} {d l0 s0 mc ms : Nat} {Q : Unit → gz_H → Prop} (a0 : Nat) (h : gz_H) (hf : gz_g (fX3_init_0 l0 s0 mc ms a0 h) Q) : gz_Ok G mX3_init (d + 1, l0, s0, mc, ms) 0 [.ref a0] [] h (gz_qu Q) := by
  unfold fX3_init_0 at hf
  refine gz_aload_n (pc := 0) dX3_init_0 rfl rfl ?_
  refine gz_obj (pc := 1) dX3_init_1 kob_RX3_3 (by show 1 ≤ d + 1; omega) (Nat.le_of_ble_eq_true rfl) ?_
  refine gz_aload_n (pc := 4) dX3_init_4 rfl rfl ?_
  refine gz_bipush (v := (40 : Int32)) (pc := 5) dX3_init_5 rfl ?_
  refine gz_gk hf (fun c_1 hf => ?_)
  refine gz_newi (pc := 7) dX3_init_7 kw_int (gz_dcs c_1).1 (gz_dcs c_1).2.1 (gz_dcs c_1).2.2.1 (gz_dcs c_1).2.2.2 ?_
  refine gz_nmH (fun h_2 eh_2 => ?_)
  have hf := gz_gl eh_2 hf
  refine gz_gk hf (fun c_3 hf => ?_)
  refine gz_putR (pc := 9) dX3_init_9 fw_X3_init_9 rfl (gz_shs c_3) ?_
  refine gz_nmH (fun h_4 eh_4 => ?_)
  have hf := gz_gl eh_4 hf
  refine gz_gk hf (fun c_5 hf => ?_)
  exact gz_uretA (pc := 12) dX3_init_12 rfl (gz_dcs c_5).1 (gz_dcs c_5).2 hf
def fX3_init (mc ms : Nat) (a0 : Nat) (h : gz_H) : Option (Unit × gz_H) := fX3_init_0 h.1.length (gz_ss h.1) mc ms a0 h
theorem sX3_init {G : gz_G} {d mc ms : Nat} {a0 : Nat} {h : gz_H} {Q : Unit → gz_H → Prop} (hf : gz_g (fX3_init mc ms a0 h) Q) : gz_Cl G mX3_init (d + 1) mc ms [.ref a0] h (gz_qu Q) := gz_cl_of (lo := [.ref a0]) (by decide) rfl rfl (Nat.le_of_ble_eq_true rfl) (sX3_init_0 a0 h hf)
theorem dX3_become_0 : decode cX3_become 0 = .ok (.aload_n 1, 1) := by decide +kernel
theorem dX3_become_1 : decode cX3_become 1 = .ok (.getfield 9, 3) := by decide +kernel
theorem dX3_become_4 : decode cX3_become 4 = .ok (.iconst 0, 1) := by decide +kernel
theorem dX3_become_5 : decode cX3_become 5 = .ok (.aload_n 0, 1) := by decide +kernel
theorem dX3_become_6 : decode cX3_become 6 = .ok (.getfield 9, 3) := by decide +kernel
theorem dX3_become_9 : decode cX3_become 9 = .ok (.iconst 0, 1) := by decide +kernel
theorem dX3_become_10 : decode cX3_become 10 = .ok (.bipush 40, 2) := by decide +kernel
theorem dX3_become_12 : decode cX3_become 12 = .ok (.invokestatic 15, 3) := by decide +kernel
theorem dX3_become_15 : decode cX3_become 15 = .ok (.aload_n 0, 1) := by decide +kernel
theorem dX3_become_16 : decode cX3_become 16 = .ok (.aload_n 1, 1) := by decide +kernel
theorem dX3_become_17 : decode cX3_become 17 = .ok (.getfield 21, 3) := by decide +kernel
theorem dX3_become_20 : decode cX3_become 20 = .ok (.putfield 21, 3) := by decide +kernel
theorem dX3_become_23 : decode cX3_become 23 = .ok (.return_, 1) := by decide +kernel
def fX3_become_0  (a0 : Nat) (a1 : Nat) (h : gz_H) : Option (Unit × gz_H) :=
    gz_ck (gz_sh h a1 3 2) <|
    gz_br (h.2.2.2 a1 0) fun r_2 =>
    gz_ck (gz_sh h a0 3 2) <|
    gz_br (h.2.2.2 a0 0) fun r_4 =>
    gz_ck (gz_cpOk h r_2 r_4 (0 : Int32) (0 : Int32) (40 : Int32)) <|
    gz_lt (gz_cp h r_2 r_4 (0 : Int32) (0 : Int32) (40 : Int32)) fun h_6 =>
    gz_ck (gz_sh h_6 a1 3 2) <|
    gz_ck (gz_sh h_6 a0 3 2) <|
    gz_lt (uI h_6 a0 1 (h_6.2.1 a1 1)) fun h_9 =>
    some ((), h_9)
set_option maxRecDepth 100000 in
set_option maxHeartbeats 1000000 in
theorem sX3_become_0 {G : gz_G} {d l0 s0 : Nat} {Q : Unit → gz_H → Prop} (a0 : Nat) (a1 : Nat) (h : gz_H) (hf : gz_g (fX3_become_0  a0 a1 h) Q) : gz_Ok G mX3_become (d + 1, l0, s0, 0, 0) 0 [.ref a0, .ref a1] [] h (gz_qu Q) := by
  unfold fX3_become_0 at hf
  refine gz_aload_n (pc := 0) dX3_become_0 rfl rfl ?_
  refine gz_gk hf (fun c_1 hf => ?_)
  refine gz_gb hf (fun r_2 er_2 hf => ?_)
  refine gz_getR (pc := 1) dX3_become_1 fl_RX3_9 rfl (gz_shs c_1) er_2 ?_
  refine gz_iconst (v := (0 : Int32)) (pc := 4) dX3_become_4 rfl ?_
  refine gz_aload_n (pc := 5) dX3_become_5 rfl rfl ?_
  refine gz_gk hf (fun c_3 hf => ?_)
  refine gz_gb hf (fun r_4 er_4 hf => ?_)
  refine gz_getR (pc := 6) dX3_become_6 fl_RX3_9 rfl (gz_shs c_3) er_4 ?_
  refine gz_iconst (v := (0 : Int32)) (pc := 9) dX3_become_9 rfl ?_
  refine gz_bipush (v := (40 : Int32)) (pc := 10) dX3_become_10 rfl ?_
  refine gz_gk hf (fun c_5 hf => ?_)
  refine gz_copy (pc := 12) dX3_become_12 kcp_RX3_15 (by show 1 ≤ d + 1; omega) (Nat.le_of_ble_eq_true rfl) c_5 ?_
  refine gz_nmH (fun h_6 eh_6 => ?_)
  have hf := gz_gl eh_6 hf
  refine gz_aload_n (pc := 15) dX3_become_15 rfl rfl ?_
  refine gz_aload_n (pc := 16) dX3_become_16 rfl rfl ?_
  refine gz_gk hf (fun c_7 hf => ?_)
  refine gz_getI (pc := 17) dX3_become_17 fl_RX3_21 rfl (gz_shs c_7) ?_
  refine gz_gk hf (fun c_8 hf => ?_)
  refine gz_putI (pc := 20) dX3_become_20 fw_X3_become_21 rfl rfl rfl (gz_shs c_8) ?_
  refine gz_nmH (fun h_9 eh_9 => ?_)
  have hf := gz_gl eh_9 hf
  exact gz_uret (pc := 23) dX3_become_23 rfl hf
def fX3_become (a0 : Nat) (a1 : Nat) (h : gz_H) : Option (Unit × gz_H) := fX3_become_0 a0 a1 h
theorem sX3_become {G : gz_G} {d : Nat} {a0 : Nat} {a1 : Nat} {h : gz_H} {Q : Unit → gz_H → Prop} (hf : gz_g (fX3_become a0 a1 h) Q) : gz_Cl G mX3_become (d + 1) 0 0 [.ref a0, .ref a1] h (gz_qu Q) := gz_cl_of (lo := [.ref a0, .ref a1]) (by decide) rfl rfl (Nat.le_of_ble_eq_true rfl) (sX3_become_0 a0 a1 h hf)
theorem dX3_note_0 : decode cX3_note 0 = .ok (.aload_n 0, 1) := by decide +kernel
theorem dX3_note_1 : decode cX3_note 1 = .ok (.getfield 21, 3) := by decide +kernel
theorem dX3_note_4 : decode cX3_note 4 = .ok (.bipush 40, 2) := by decide +kernel
theorem dX3_note_6 : decode cX3_note 6 = .ok (.if_icmp .lt 4, 3) := by decide +kernel
theorem dX3_note_9 : decode cX3_note 9 = .ok (.return_, 1) := by decide +kernel
theorem dX3_note_10 : decode cX3_note 10 = .ok (.aload_n 0, 1) := by decide +kernel
theorem dX3_note_11 : decode cX3_note 11 = .ok (.getfield 9, 3) := by decide +kernel
theorem dX3_note_14 : decode cX3_note 14 = .ok (.aload_n 0, 1) := by decide +kernel
theorem dX3_note_15 : decode cX3_note 15 = .ok (.dup, 1) := by decide +kernel
theorem dX3_note_16 : decode cX3_note 16 = .ok (.getfield 21, 3) := by decide +kernel
theorem dX3_note_19 : decode cX3_note 19 = .ok (.dup_x1, 1) := by decide +kernel
theorem dX3_note_20 : decode cX3_note 20 = .ok (.iconst 1, 1) := by decide +kernel
theorem dX3_note_21 : decode cX3_note 21 = .ok (.iadd, 1) := by decide +kernel
theorem dX3_note_22 : decode cX3_note 22 = .ok (.putfield 21, 3) := by decide +kernel
theorem dX3_note_25 : decode cX3_note 25 = .ok (.iload_n 1, 1) := by decide +kernel
theorem dX3_note_26 : decode cX3_note 26 = .ok (.bipush 8, 2) := by decide +kernel
theorem dX3_note_28 : decode cX3_note 28 = .ok (.ishl, 1) := by decide +kernel
theorem dX3_note_29 : decode cX3_note 29 = .ok (.iload_n 2, 1) := by decide +kernel
theorem dX3_note_30 : decode cX3_note 30 = .ok (.iconst 4, 1) := by decide +kernel
theorem dX3_note_31 : decode cX3_note 31 = .ok (.ishl, 1) := by decide +kernel
theorem dX3_note_32 : decode cX3_note 32 = .ok (.ior, 1) := by decide +kernel
theorem dX3_note_33 : decode cX3_note 33 = .ok (.iload_n 3, 1) := by decide +kernel
theorem dX3_note_34 : decode cX3_note 34 = .ok (.ior, 1) := by decide +kernel
theorem dX3_note_35 : decode cX3_note 35 = .ok (.iastore, 1) := by decide +kernel
theorem dX3_note_36 : decode cX3_note 36 = .ok (.return_, 1) := by decide +kernel
def fX3_note_0  (a0 : Nat) (x1 : Int32) (x2 : Int32) (x3 : Int32) (h : gz_H) : Option (Unit × gz_H) :=
    gz_ck (gz_sh h a0 3 2) <|
    if (h.2.1 a0 1) < (40 : Int32) then (
     gz_br (h.2.2.2 a0 0) fun r_3 =>
     gz_lt (uI h a0 1 ((h.2.1 a0 1) + (1 : Int32))) fun h_4 =>
     gz_ck (gz_inb h_4 r_3 10 (h.2.1 a0 1)) <|
     gz_lt (uI h_4 r_3 (h.2.1 a0 1).toNatClampNeg (((x1 <<< ((8 : Int32) &&& 31)) ||| (x2 <<< ((4 : Int32) &&& 31))) ||| x3)) fun h_6 =>
     some ((), h_6)
    ) else (
     some ((), h)
    )
set_option maxRecDepth 100000 in
set_option maxHeartbeats 1000000 in
theorem sX3_note_0 {G : gz_G} {d l0 s0 : Nat} {Q : Unit → gz_H → Prop} (a0 : Nat) (x1 : Int32) (x2 : Int32) (x3 : Int32) (h : gz_H) (hf : gz_g (fX3_note_0  a0 x1 x2 x3 h) Q) : gz_Ok G mX3_note (d + 0, l0, s0, 0, 0) 0 [.ref a0, .int x1, .int x2, .int x3] [] h (gz_qu Q) := by
  unfold fX3_note_0 at hf
  refine gz_aload_n (pc := 0) dX3_note_0 rfl rfl ?_
  refine gz_gk hf (fun c_1 hf => ?_)
  refine gz_getI (pc := 1) dX3_note_1 fl_RX3_21 rfl (gz_shs c_1) ?_
  refine gz_bipush (v := (40 : Int32)) (pc := 4) dX3_note_4 rfl ?_
  refine gz_icmp_lt (tgt := 10) (pc := 6) dX3_note_6 rfl (fun c_2 => ?_) (fun c_2 => ?_)
  · have hf := gz_gT hf c_2
    refine gz_aload_n (pc := 10) dX3_note_10 rfl rfl ?_
    refine gz_gb hf (fun r_3 er_3 hf => ?_)
    refine gz_getR (pc := 11) dX3_note_11 fl_RX3_9 rfl (gz_shs c_1) er_3 ?_
    refine gz_aload_n (pc := 14) dX3_note_14 rfl rfl ?_
    refine gz_dup (pc := 15) dX3_note_15 rfl ?_
    refine gz_getI (pc := 16) dX3_note_16 fl_RX3_21 rfl (gz_shs c_1) ?_
    refine gz_dup_x1 (pc := 19) dX3_note_19 rfl rfl ?_
    refine gz_iconst (v := (1 : Int32)) (pc := 20) dX3_note_20 rfl ?_
    refine gz_iadd (pc := 21) dX3_note_21 ?_
    refine gz_putI (pc := 22) dX3_note_22 fw_X3_note_21 rfl rfl rfl (gz_shs c_1) ?_
    refine gz_nmH (fun h_4 eh_4 => ?_)
    have hf := gz_gl eh_4 hf
    refine gz_iload_n (pc := 25) dX3_note_25 rfl rfl ?_
    refine gz_bipush (v := (8 : Int32)) (pc := 26) dX3_note_26 rfl ?_
    refine gz_ishl (pc := 28) dX3_note_28 ?_
    refine gz_iload_n (pc := 29) dX3_note_29 rfl rfl ?_
    refine gz_iconst (v := (4 : Int32)) (pc := 30) dX3_note_30 rfl ?_
    refine gz_ishl (pc := 31) dX3_note_31 ?_
    refine gz_ior (pc := 32) dX3_note_32 ?_
    refine gz_iload_n (pc := 33) dX3_note_33 rfl rfl ?_
    refine gz_ior (pc := 34) dX3_note_34 ?_
    refine gz_gk hf (fun c_5 hf => ?_)
    refine gz_iast (pc := 35) dX3_note_35 c_5 ?_
    refine gz_nmH (fun h_6 eh_6 => ?_)
    have hf := gz_gl eh_6 hf
    exact gz_uret (pc := 36) dX3_note_36 rfl hf
  · have hf := gz_gF hf c_2
    exact gz_uret (pc := 9) dX3_note_9 rfl hf
def fX3_note (a0 : Nat) (x1 : Int32) (x2 : Int32) (x3 : Int32) (h : gz_H) : Option (Unit × gz_H) := fX3_note_0 a0 x1 x2 x3 h
theorem sX3_note {G : gz_G} {d : Nat} {a0 : Nat} {x1 : Int32} {x2 : Int32} {x3 : Int32} {h : gz_H} {Q : Unit → gz_H → Prop} (hf : gz_g (fX3_note a0 x1 x2 x3 h) Q) : gz_Cl G mX3_note (d + 0) 0 0 [.ref a0, .int x1, .int x2, .int x3] h (gz_qu Q) := gz_cl_of (lo := [.ref a0, .int x1, .int x2, .int x3]) (by decide) rfl rfl (Nat.le_of_ble_eq_true rfl) (sX3_note_0 a0 x1 x2 x3 h hf)
theorem dX3_deedAt_0 : decode cX3_deedAt 0 = .ok (.aload_n 0, 1) := by decide +kernel
theorem dX3_deedAt_1 : decode cX3_deedAt 1 = .ok (.getfield 9, 3) := by decide +kernel
theorem dX3_deedAt_4 : decode cX3_deedAt 4 = .ok (.iload_n 1, 1) := by decide +kernel
theorem dX3_deedAt_5 : decode cX3_deedAt 5 = .ok (.iaload, 1) := by decide +kernel
theorem dX3_deedAt_6 : decode cX3_deedAt 6 = .ok (.bipush 8, 2) := by decide +kernel
theorem dX3_deedAt_8 : decode cX3_deedAt 8 = .ok (.ishr, 1) := by decide +kernel
theorem dX3_deedAt_9 : decode cX3_deedAt 9 = .ok (.ireturn, 1) := by decide +kernel
def fX3_deedAt_0  (a0 : Nat) (x1 : Int32) (h : gz_H) : Option (Int32 × gz_H) :=
    gz_ck (gz_sh h a0 3 2) <|
    gz_br (h.2.2.2 a0 0) fun r_2 =>
    gz_ck (gz_inb h r_2 10 x1) <|
    some ((h.2.1 r_2 x1.toNatClampNeg) >>> ((8 : Int32) &&& 31), h)
set_option maxRecDepth 100000 in
set_option maxHeartbeats 1000000 in
theorem sX3_deedAt_0 {G : gz_G} {d l0 s0 : Nat} {Q : Int32 → gz_H → Prop} (a0 : Nat) (x1 : Int32) (h : gz_H) (hf : gz_g (fX3_deedAt_0  a0 x1 h) Q) : gz_Ok G mX3_deedAt (d + 0, l0, s0, 0, 0) 0 [.ref a0, .int x1] [] h (gz_qi Q) := by
  unfold fX3_deedAt_0 at hf
  refine gz_aload_n (pc := 0) dX3_deedAt_0 rfl rfl ?_
  refine gz_gk hf (fun c_1 hf => ?_)
  refine gz_gb hf (fun r_2 er_2 hf => ?_)
  refine gz_getR (pc := 1) dX3_deedAt_1 fl_RX3_9 rfl (gz_shs c_1) er_2 ?_
  refine gz_iload_n (pc := 4) dX3_deedAt_4 rfl rfl ?_
  refine gz_gk hf (fun c_3 hf => ?_)
  refine gz_iald (pc := 5) dX3_deedAt_5 c_3 ?_
  refine gz_bipush (v := (8 : Int32)) (pc := 6) dX3_deedAt_6 rfl ?_
  refine gz_ishr (pc := 8) dX3_deedAt_8 ?_
  exact gz_irt (pc := 9) dX3_deedAt_9 rfl rfl hf
def fX3_deedAt (a0 : Nat) (x1 : Int32) (h : gz_H) : Option (Int32 × gz_H) := fX3_deedAt_0 a0 x1 h
theorem sX3_deedAt {G : gz_G} {d : Nat} {a0 : Nat} {x1 : Int32} {h : gz_H} {Q : Int32 → gz_H → Prop} (hf : gz_g (fX3_deedAt a0 x1 h) Q) : gz_Cl G mX3_deedAt (d + 0) 0 0 [.ref a0, .int x1] h (gz_qi Q) := gz_cl_of (lo := [.ref a0, .int x1]) (by decide) rfl rfl (Nat.le_of_ble_eq_true rfl) (sX3_deedAt_0 a0 x1 h hf)
theorem dX3_doneTo_0 : decode cX3_doneTo 0 = .ok (.aload_n 0, 1) := by decide +kernel
theorem dX3_doneTo_1 : decode cX3_doneTo 1 = .ok (.getfield 9, 3) := by decide +kernel
theorem dX3_doneTo_4 : decode cX3_doneTo 4 = .ok (.iload_n 1, 1) := by decide +kernel
theorem dX3_doneTo_5 : decode cX3_doneTo 5 = .ok (.iaload, 1) := by decide +kernel
theorem dX3_doneTo_6 : decode cX3_doneTo 6 = .ok (.iconst 4, 1) := by decide +kernel
theorem dX3_doneTo_7 : decode cX3_doneTo 7 = .ok (.ishr, 1) := by decide +kernel
theorem dX3_doneTo_8 : decode cX3_doneTo 8 = .ok (.bipush 15, 2) := by decide +kernel
theorem dX3_doneTo_10 : decode cX3_doneTo 10 = .ok (.iand, 1) := by decide +kernel
theorem dX3_doneTo_11 : decode cX3_doneTo 11 = .ok (.ireturn, 1) := by decide +kernel
def fX3_doneTo_0  (a0 : Nat) (x1 : Int32) (h : gz_H) : Option (Int32 × gz_H) :=
    gz_ck (gz_sh h a0 3 2) <|
    gz_br (h.2.2.2 a0 0) fun r_2 =>
    gz_ck (gz_inb h r_2 10 x1) <|
    some (((h.2.1 r_2 x1.toNatClampNeg) >>> ((4 : Int32) &&& 31)) &&& (15 : Int32), h)
set_option maxRecDepth 100000 in
set_option maxHeartbeats 1000000 in
theorem sX3_doneTo_0 {G : gz_G} {d l0 s0 : Nat} {Q : Int32 → gz_H → Prop} (a0 : Nat) (x1 : Int32) (h : gz_H) (hf : gz_g (fX3_doneTo_0  a0 x1 h) Q) : gz_Ok G mX3_doneTo (d + 0, l0, s0, 0, 0) 0 [.ref a0, .int x1] [] h (gz_qi Q) := by
  unfold fX3_doneTo_0 at hf
  refine gz_aload_n (pc := 0) dX3_doneTo_0 rfl rfl ?_
  refine gz_gk hf (fun c_1 hf => ?_)
  refine gz_gb hf (fun r_2 er_2 hf => ?_)
  refine gz_getR (pc := 1) dX3_doneTo_1 fl_RX3_9 rfl (gz_shs c_1) er_2 ?_
  refine gz_iload_n (pc := 4) dX3_doneTo_4 rfl rfl ?_
  refine gz_gk hf (fun c_3 hf => ?_)
  refine gz_iald (pc := 5) dX3_doneTo_5 c_3 ?_
  refine gz_iconst (v := (4 : Int32)) (pc := 6) dX3_doneTo_6 rfl ?_
  refine gz_ishr (pc := 7) dX3_doneTo_7 ?_
  refine gz_bipush (v := (15 : Int32)) (pc := 8) dX3_doneTo_8 rfl ?_
  refine gz_iand (pc := 10) dX3_doneTo_10 ?_
  exact gz_irt (pc := 11) dX3_doneTo_11 rfl rfl hf
def fX3_doneTo (a0 : Nat) (x1 : Int32) (h : gz_H) : Option (Int32 × gz_H) := fX3_doneTo_0 a0 x1 h
theorem sX3_doneTo {G : gz_G} {d : Nat} {a0 : Nat} {x1 : Int32} {h : gz_H} {Q : Int32 → gz_H → Prop} (hf : gz_g (fX3_doneTo a0 x1 h) Q) : gz_Cl G mX3_doneTo (d + 0) 0 0 [.ref a0, .int x1] h (gz_qi Q) := gz_cl_of (lo := [.ref a0, .int x1]) (by decide) rfl rfl (Nat.le_of_ble_eq_true rfl) (sX3_doneTo_0 a0 x1 h hf)
theorem dX3_doneWith_0 : decode cX3_doneWith 0 = .ok (.aload_n 0, 1) := by decide +kernel
theorem dX3_doneWith_1 : decode cX3_doneWith 1 = .ok (.getfield 9, 3) := by decide +kernel
theorem dX3_doneWith_4 : decode cX3_doneWith 4 = .ok (.iload_n 1, 1) := by decide +kernel
theorem dX3_doneWith_5 : decode cX3_doneWith 5 = .ok (.iaload, 1) := by decide +kernel
theorem dX3_doneWith_6 : decode cX3_doneWith 6 = .ok (.bipush 15, 2) := by decide +kernel
theorem dX3_doneWith_8 : decode cX3_doneWith 8 = .ok (.iand, 1) := by decide +kernel
theorem dX3_doneWith_9 : decode cX3_doneWith 9 = .ok (.ireturn, 1) := by decide +kernel
def fX3_doneWith_0  (a0 : Nat) (x1 : Int32) (h : gz_H) : Option (Int32 × gz_H) :=
    gz_ck (gz_sh h a0 3 2) <|
    gz_br (h.2.2.2 a0 0) fun r_2 =>
    gz_ck (gz_inb h r_2 10 x1) <|
    some ((h.2.1 r_2 x1.toNatClampNeg) &&& (15 : Int32), h)
set_option maxRecDepth 100000 in
set_option maxHeartbeats 1000000 in
theorem sX3_doneWith_0 {G : gz_G} {d l0 s0 : Nat} {Q : Int32 → gz_H → Prop} (a0 : Nat) (x1 : Int32) (h : gz_H) (hf : gz_g (fX3_doneWith_0  a0 x1 h) Q) : gz_Ok G mX3_doneWith (d + 0, l0, s0, 0, 0) 0 [.ref a0, .int x1] [] h (gz_qi Q) := by
  unfold fX3_doneWith_0 at hf
  refine gz_aload_n (pc := 0) dX3_doneWith_0 rfl rfl ?_
  refine gz_gk hf (fun c_1 hf => ?_)
  refine gz_gb hf (fun r_2 er_2 hf => ?_)
  refine gz_getR (pc := 1) dX3_doneWith_1 fl_RX3_9 rfl (gz_shs c_1) er_2 ?_
  refine gz_iload_n (pc := 4) dX3_doneWith_4 rfl rfl ?_
  refine gz_gk hf (fun c_3 hf => ?_)
  refine gz_iald (pc := 5) dX3_doneWith_5 c_3 ?_
  refine gz_bipush (v := (15 : Int32)) (pc := 6) dX3_doneWith_6 rfl ?_
  refine gz_iand (pc := 8) dX3_doneWith_8 ?_
  exact gz_irt (pc := 9) dX3_doneWith_9 rfl rfl hf
def fX3_doneWith (a0 : Nat) (x1 : Int32) (h : gz_H) : Option (Int32 × gz_H) := fX3_doneWith_0 a0 x1 h
theorem sX3_doneWith {G : gz_G} {d : Nat} {a0 : Nat} {x1 : Int32} {h : gz_H} {Q : Int32 → gz_H → Prop} (hf : gz_g (fX3_doneWith a0 x1 h) Q) : gz_Cl G mX3_doneWith (d + 0) 0 0 [.ref a0, .int x1] h (gz_qi Q) := gz_cl_of (lo := [.ref a0, .int x1]) (by decide) rfl rfl (Nat.le_of_ble_eq_true rfl) (sX3_doneWith_0 a0 x1 h hf)
theorem dX4_init_0 : decode cX4_init 0 = .ok (.aload_n 0, 1) := by decide +kernel
theorem dX4_init_1 : decode cX4_init 1 = .ok (.invokespecial 1, 3) := by decide +kernel
theorem dX4_init_4 : decode cX4_init 4 = .ok (.aload_n 0, 1) := by decide +kernel
theorem dX4_init_5 : decode cX4_init 5 = .ok (.lconst 0, 1) := by decide +kernel
theorem dX4_init_6 : decode cX4_init 6 = .ok (.putfield 7, 3) := by decide +kernel
theorem dX4_init_9 : decode cX4_init 9 = .ok (.aload_n 0, 1) := by decide +kernel
theorem dX4_init_10 : decode cX4_init 10 = .ok (.lconst 1, 1) := by decide +kernel
theorem dX4_init_11 : decode cX4_init 11 = .ok (.putfield 13, 3) := by decide +kernel
theorem dX4_init_14 : decode cX4_init 14 = .ok (.return_, 1) := by decide +kernel
def fX4_init_0 (l0 s0 mc ms : Nat) (a0 : Nat) (h : gz_H) : Option (Unit × gz_H) :=
    gz_ck (gz_sh h a0 4 2) <|
    gz_lt (uL h a0 0 (0 : Int64)) fun h_2 =>
    gz_ck (gz_sh h_2 a0 4 2) <|
    gz_lt (uL h_2 a0 1 (1 : Int64)) fun h_4 =>
    gz_ck (gz_dc (l0 + mc = h_4.1.length ∧ s0 + ms = gz_ss h_4.1)) <|
    some ((), h_4)
set_option maxRecDepth 100000 in
set_option maxHeartbeats 1000000 in
theorem sX4_init_0 {G : gz_G} {d l0 s0 mc ms : Nat} {Q : Unit → gz_H → Prop} (a0 : Nat) (h : gz_H) (hf : gz_g (fX4_init_0 l0 s0 mc ms a0 h) Q) : gz_Ok G mX4_init (d + 1, l0, s0, mc, ms) 0 [.ref a0] [] h (gz_qu Q) := by
  unfold fX4_init_0 at hf
  refine gz_aload_n (pc := 0) dX4_init_0 rfl rfl ?_
  refine gz_obj (pc := 1) dX4_init_1 kob_RX4_1 (by show 1 ≤ d + 1; omega) (Nat.le_of_ble_eq_true rfl) ?_
  refine gz_aload_n (pc := 4) dX4_init_4 rfl rfl ?_
  refine gz_lconst (v := (0 : Int64)) (pc := 5) dX4_init_5 rfl ?_
  refine gz_gk hf (fun c_1 hf => ?_)
  refine gz_putL (pc := 6) dX4_init_6 fw_X4_init_7 rfl (gz_shs c_1) ?_
  refine gz_nmH (fun h_2 eh_2 => ?_)
  have hf := gz_gl eh_2 hf
  refine gz_aload_n (pc := 9) dX4_init_9 rfl rfl ?_
  refine gz_lconst (v := (1 : Int64)) (pc := 10) dX4_init_10 rfl ?_
  refine gz_gk hf (fun c_3 hf => ?_)
  refine gz_putL (pc := 11) dX4_init_11 fw_X4_init_13 rfl (gz_shs c_3) ?_
  refine gz_nmH (fun h_4 eh_4 => ?_)
  have hf := gz_gl eh_4 hf
  refine gz_gk hf (fun c_5 hf => ?_)
  exact gz_uretA (pc := 14) dX4_init_14 rfl (gz_dcs c_5).1 (gz_dcs c_5).2 hf
def fX4_init (mc ms : Nat) (a0 : Nat) (h : gz_H) : Option (Unit × gz_H) := fX4_init_0 h.1.length (gz_ss h.1) mc ms a0 h
theorem sX4_init {G : gz_G} {d mc ms : Nat} {a0 : Nat} {h : gz_H} {Q : Unit → gz_H → Prop} (hf : gz_g (fX4_init mc ms a0 h) Q) : gz_Cl G mX4_init (d + 1) mc ms [.ref a0] h (gz_qu Q) := gz_cl_of (lo := [.ref a0]) (by decide) rfl rfl (Nat.le_of_ble_eq_true rfl) (sX4_init_0 a0 h hf)
theorem dX4_greatestDivisor_0 : decode cX4_greatestDivisor 0 = .ok (.lload_n 0, 1) := by decide +kernel
theorem dX4_greatestDivisor_1 : decode cX4_greatestDivisor 1 = .ok (.lstore 4, 2) := by decide +kernel
theorem dX4_greatestDivisor_3 : decode cX4_greatestDivisor 3 = .ok (.lload_n 2, 1) := by decide +kernel
theorem dX4_greatestDivisor_4 : decode cX4_greatestDivisor 4 = .ok (.lstore 6, 2) := by decide +kernel
theorem dX4_greatestDivisor_6 : decode cX4_greatestDivisor 6 = .ok (.iconst 0, 1) := by decide +kernel
theorem dX4_greatestDivisor_7 : decode cX4_greatestDivisor 7 = .ok (.istore 8, 2) := by decide +kernel
theorem dX4_greatestDivisor_9 : decode cX4_greatestDivisor 9 = .ok (.iload 8, 2) := by decide +kernel
theorem dX4_greatestDivisor_11 : decode cX4_greatestDivisor 11 = .ok (.sipush 200, 3) := by decide +kernel
theorem dX4_greatestDivisor_14 : decode cX4_greatestDivisor 14 = .ok (.if_icmp .ge 31, 3) := by decide +kernel
theorem dX4_greatestDivisor_17 : decode cX4_greatestDivisor 17 = .ok (.lload 6, 2) := by decide +kernel
theorem dX4_greatestDivisor_19 : decode cX4_greatestDivisor 19 = .ok (.lconst 0, 1) := by decide +kernel
theorem dX4_greatestDivisor_20 : decode cX4_greatestDivisor 20 = .ok (.lcmp, 1) := by decide +kernel
theorem dX4_greatestDivisor_21 : decode cX4_greatestDivisor 21 = .ok (.ifCond .eq 24, 3) := by decide +kernel
theorem dX4_greatestDivisor_24 : decode cX4_greatestDivisor 24 = .ok (.lload 4, 2) := by decide +kernel
theorem dX4_greatestDivisor_26 : decode cX4_greatestDivisor 26 = .ok (.lload 6, 2) := by decide +kernel
theorem dX4_greatestDivisor_28 : decode cX4_greatestDivisor 28 = .ok (.lrem, 1) := by decide +kernel
theorem dX4_greatestDivisor_29 : decode cX4_greatestDivisor 29 = .ok (.lstore 9, 2) := by decide +kernel
theorem dX4_greatestDivisor_31 : decode cX4_greatestDivisor 31 = .ok (.lload 6, 2) := by decide +kernel
theorem dX4_greatestDivisor_33 : decode cX4_greatestDivisor 33 = .ok (.lstore 4, 2) := by decide +kernel
theorem dX4_greatestDivisor_35 : decode cX4_greatestDivisor 35 = .ok (.lload 9, 2) := by decide +kernel
theorem dX4_greatestDivisor_37 : decode cX4_greatestDivisor 37 = .ok (.lstore 6, 2) := by decide +kernel
theorem dX4_greatestDivisor_39 : decode cX4_greatestDivisor 39 = .ok (.iinc 8 1, 3) := by decide +kernel
theorem dX4_greatestDivisor_42 : decode cX4_greatestDivisor 42 = .ok (.goto (-33), 3) := by decide +kernel
theorem dX4_greatestDivisor_45 : decode cX4_greatestDivisor 45 = .ok (.lload 4, 2) := by decide +kernel
theorem dX4_greatestDivisor_47 : decode cX4_greatestDivisor 47 = .ok (.lreturn, 1) := by decide +kernel
def fX4_greatestDivisor_9  : Nat → Int64 → Int64 → Int32 → gz_H → Option (Int64 × gz_H)
  | 0, _, _, _, _ => none
  | n + 1, x4, x6, x8, h =>
    if (200 : Int32) ≤ x8 then (
     some (x4, h)
    ) else (
     if (lg_cmp x6 (0 : Int64)) = 0 then (
      some (x4, h)
     ) else (
      gz_ck (gz_nzL x6) <|
      fX4_greatestDivisor_9 n x6 (x4 - x4 / x6 * x6) (x8 + 1) h
     )
    )
set_option maxRecDepth 100000 in
set_option maxHeartbeats 1000000 in
theorem sX4_greatestDivisor_9 {G : gz_G} {d l0 s0 : Nat} {Q : Int64 → gz_H → Prop} : ∀ (n : Nat) (x4 : Int64) (x6 : Int64) (x8 : Int32) (h : gz_H), gz_g (fX4_greatestDivisor_9  n x4 x6 x8 h) Q → gz_Ok G mX4_greatestDivisor (d + 0, l0, s0, 0, 0) 9 [.retAddr 0, .retAddr 0, .retAddr 0, .retAddr 0, .long x4, .retAddr 0, .long x6, .retAddr 0, .int x8, .retAddr 0, .retAddr 0] [] h (gz_ql Q) := by
  intro n
  induction n with
  | zero => intro x4 x6 x8 h hf; exact False.elim hf
  | succ n ih =>
    intro x4 x6 x8 h hf
    rw [fX4_greatestDivisor_9] at hf
    refine gz_iload (pc := 9) dX4_greatestDivisor_9 rfl ?_
    refine gz_sipush (v := (200 : Int32)) (pc := 11) dX4_greatestDivisor_11 rfl ?_
    refine gz_icmp_ge (tgt := 45) (pc := 14) dX4_greatestDivisor_14 rfl (fun c_1 => ?_) (fun c_1 => ?_)
    · have hf := gz_gT hf c_1
      refine gz_lload (pc := 45) dX4_greatestDivisor_45 rfl ?_
      exact gz_lrt (pc := 47) dX4_greatestDivisor_47 rfl hf
    · have hf := gz_gF hf c_1
      refine gz_lload (pc := 17) dX4_greatestDivisor_17 rfl ?_
      refine gz_lconst (v := (0 : Int64)) (pc := 19) dX4_greatestDivisor_19 rfl ?_
      refine gz_lcmp (pc := 20) dX4_greatestDivisor_20 ?_
      refine gz_if_eq (tgt := 45) (pc := 21) dX4_greatestDivisor_21 rfl (fun c_2 => ?_) (fun c_2 => ?_)
      · have hf := gz_gT hf c_2
        refine gz_lload (pc := 45) dX4_greatestDivisor_45 rfl ?_
        exact gz_lrt (pc := 47) dX4_greatestDivisor_47 rfl hf
      · have hf := gz_gF hf c_2
        refine gz_lload (pc := 24) dX4_greatestDivisor_24 rfl ?_
        refine gz_lload (pc := 26) dX4_greatestDivisor_26 rfl ?_
        refine gz_gk hf (fun c_3 hf => ?_)
        refine gz_lrem (pc := 28) dX4_greatestDivisor_28 (gz_nzLs c_3) ?_
        refine gz_lstore (lv := [.retAddr 0, .retAddr 0, .retAddr 0, .retAddr 0, .long x4, .retAddr 0, .long x6, .retAddr 0, .int x8, .long (x4 - x4 / x6 * x6), .retAddr 0]) (pc := 29) dX4_greatestDivisor_29 (by decide) rfl ?_
        refine gz_lload (pc := 31) dX4_greatestDivisor_31 rfl ?_
        refine gz_lstore (lv := [.retAddr 0, .retAddr 0, .retAddr 0, .retAddr 0, .long x6, .retAddr 0, .long x6, .retAddr 0, .int x8, .long (x4 - x4 / x6 * x6), .retAddr 0]) (pc := 33) dX4_greatestDivisor_33 (by decide) rfl ?_
        refine gz_lload (pc := 35) dX4_greatestDivisor_35 rfl ?_
        refine gz_lstore (lv := [.retAddr 0, .retAddr 0, .retAddr 0, .retAddr 0, .long x6, .retAddr 0, .long (x4 - x4 / x6 * x6), .retAddr 0, .int x8, .long (x4 - x4 / x6 * x6), .retAddr 0]) (pc := 37) dX4_greatestDivisor_37 (by decide) rfl ?_
        refine gz_iinc (v := x8 + 1) (lv := [.retAddr 0, .retAddr 0, .retAddr 0, .retAddr 0, .long x6, .retAddr 0, .long (x4 - x4 / x6 * x6), .retAddr 0, .int (x8 + 1), .long (x4 - x4 / x6 * x6), .retAddr 0]) (pc := 39) dX4_greatestDivisor_39 rfl rfl (by decide) rfl ?_
        refine gz_goto (tgt := 9) (pc := 42) dX4_greatestDivisor_42 rfl ?_
        refine gz_fg (lv := [.retAddr 0, .retAddr 0, .retAddr 0, .retAddr 0, .long x6, .retAddr 0, .long (x4 - x4 / x6 * x6), .retAddr 0, .int (x8 + 1), .retAddr 0, .retAddr 0]) ⟨Or.inl rfl, ⟨Or.inl rfl, ⟨Or.inl rfl, ⟨Or.inl rfl, ⟨Or.inr rfl, ⟨Or.inl rfl, ⟨Or.inr rfl, ⟨Or.inl rfl, ⟨Or.inr rfl, ⟨Or.inl rfl, ⟨Or.inl rfl, trivial⟩⟩⟩⟩⟩⟩⟩⟩⟩⟩⟩ ?_
        exact ih x6 (x4 - x4 / x6 * x6) (x8 + 1) h hf
def fX4_greatestDivisor_0  (x0 : Int64) (x2 : Int64) (h : gz_H) : Option (Int64 × gz_H) :=
    fX4_greatestDivisor_9 gz_fu x0 x2 (0 : Int32) h
set_option maxRecDepth 100000 in
set_option maxHeartbeats 1000000 in
theorem sX4_greatestDivisor_0 {G : gz_G} {d l0 s0 : Nat} {Q : Int64 → gz_H → Prop} (x0 : Int64) (x2 : Int64) (h : gz_H) (hf : gz_g (fX4_greatestDivisor_0  x0 x2 h) Q) : gz_Ok G mX4_greatestDivisor (d + 0, l0, s0, 0, 0) 0 [.long x0, .retAddr 0, .long x2, .retAddr 0, .retAddr 0, .retAddr 0, .retAddr 0, .retAddr 0, .retAddr 0, .retAddr 0, .retAddr 0] [] h (gz_ql Q) := by
  unfold fX4_greatestDivisor_0 at hf
  refine gz_lload_n (pc := 0) dX4_greatestDivisor_0 rfl rfl ?_
  refine gz_lstore (lv := [.long x0, .retAddr 0, .long x2, .retAddr 0, .long x0, .retAddr 0, .retAddr 0, .retAddr 0, .retAddr 0, .retAddr 0, .retAddr 0]) (pc := 1) dX4_greatestDivisor_1 (by decide) rfl ?_
  refine gz_lload_n (pc := 3) dX4_greatestDivisor_3 rfl rfl ?_
  refine gz_lstore (lv := [.long x0, .retAddr 0, .long x2, .retAddr 0, .long x0, .retAddr 0, .long x2, .retAddr 0, .retAddr 0, .retAddr 0, .retAddr 0]) (pc := 4) dX4_greatestDivisor_4 (by decide) rfl ?_
  refine gz_iconst (v := (0 : Int32)) (pc := 6) dX4_greatestDivisor_6 rfl ?_
  refine gz_istore (lv := [.long x0, .retAddr 0, .long x2, .retAddr 0, .long x0, .retAddr 0, .long x2, .retAddr 0, .int (0 : Int32), .retAddr 0, .retAddr 0]) (pc := 7) dX4_greatestDivisor_7 (by decide) rfl ?_
  refine gz_fg (lv := [.retAddr 0, .retAddr 0, .retAddr 0, .retAddr 0, .long x0, .retAddr 0, .long x2, .retAddr 0, .int (0 : Int32), .retAddr 0, .retAddr 0]) ⟨Or.inl rfl, ⟨Or.inl rfl, ⟨Or.inl rfl, ⟨Or.inl rfl, ⟨Or.inr rfl, ⟨Or.inl rfl, ⟨Or.inr rfl, ⟨Or.inl rfl, ⟨Or.inr rfl, ⟨Or.inl rfl, ⟨Or.inl rfl, trivial⟩⟩⟩⟩⟩⟩⟩⟩⟩⟩⟩ ?_
  exact sX4_greatestDivisor_9 gz_fu x0 x2 (0 : Int32) h hf
def fX4_greatestDivisor (x0 : Int64) (x2 : Int64) (h : gz_H) : Option (Int64 × gz_H) := fX4_greatestDivisor_0 x0 x2 h
theorem sX4_greatestDivisor {G : gz_G} {d : Nat} {x0 : Int64} {x2 : Int64} {h : gz_H} {Q : Int64 → gz_H → Prop} (hf : gz_g (fX4_greatestDivisor x0 x2 h) Q) : gz_Cl G mX4_greatestDivisor (d + 0) 0 0 [.long x0, .long x2] h (gz_ql Q) := gz_cl_of (lo := [.long x0, .retAddr 0, .long x2, .retAddr 0, .retAddr 0, .retAddr 0, .retAddr 0, .retAddr 0, .retAddr 0, .retAddr 0, .retAddr 0]) (by decide) rfl rfl (Nat.le_of_ble_eq_true rfl) (sX4_greatestDivisor_0 x0 x2 h hf)
theorem dX4_become_0 : decode cX4_become 0 = .ok (.lload_n 1, 1) := by decide +kernel
theorem dX4_become_1 : decode cX4_become 1 = .ok (.lload_n 3, 1) := by decide +kernel
theorem dX4_become_2 : decode cX4_become 2 = .ok (.invokestatic 16, 3) := by decide +kernel
theorem dX4_become_5 : decode cX4_become 5 = .ok (.lstore 5, 2) := by decide +kernel
theorem dX4_become_7 : decode cX4_become 7 = .ok (.lload 5, 2) := by decide +kernel
theorem dX4_become_9 : decode cX4_become 9 = .ok (.lconst 0, 1) := by decide +kernel
theorem dX4_become_10 : decode cX4_become 10 = .ok (.lcmp, 1) := by decide +kernel
theorem dX4_become_11 : decode cX4_become 11 = .ok (.ifCond .ne 4, 3) := by decide +kernel
theorem dX4_become_14 : decode cX4_become 14 = .ok (.return_, 1) := by decide +kernel
theorem dX4_become_15 : decode cX4_become 15 = .ok (.aload_n 0, 1) := by decide +kernel
theorem dX4_become_16 : decode cX4_become 16 = .ok (.lload_n 1, 1) := by decide +kernel
theorem dX4_become_17 : decode cX4_become 17 = .ok (.lload 5, 2) := by decide +kernel
theorem dX4_become_19 : decode cX4_become 19 = .ok (.ldiv, 1) := by decide +kernel
theorem dX4_become_20 : decode cX4_become 20 = .ok (.putfield 7, 3) := by decide +kernel
theorem dX4_become_23 : decode cX4_become 23 = .ok (.aload_n 0, 1) := by decide +kernel
theorem dX4_become_24 : decode cX4_become 24 = .ok (.lload_n 3, 1) := by decide +kernel
theorem dX4_become_25 : decode cX4_become 25 = .ok (.lload 5, 2) := by decide +kernel
theorem dX4_become_27 : decode cX4_become 27 = .ok (.ldiv, 1) := by decide +kernel
theorem dX4_become_28 : decode cX4_become 28 = .ok (.putfield 13, 3) := by decide +kernel
theorem dX4_become_31 : decode cX4_become 31 = .ok (.return_, 1) := by decide +kernel
def fX4_become_0  (a0 : Nat) (x1 : Int64) (x3 : Int64) (h : gz_H) : Option (Unit × gz_H) :=
    gz_b2 (fX4_greatestDivisor x1 x3 h) fun y_2 h_1 =>
    if (lg_cmp y_2 (0 : Int64)) = 0 then (
     some ((), h_1)
    ) else (
     gz_ck (gz_nzL y_2) <|
     gz_ck (gz_sh h_1 a0 4 2) <|
     gz_lt (uL h_1 a0 0 (x1 / y_2)) fun h_6 =>
     gz_ck (gz_sh h_6 a0 4 2) <|
     gz_lt (uL h_6 a0 1 (x3 / y_2)) fun h_8 =>
     some ((), h_8)
    )
set_option maxRecDepth 100000 in
set_option maxHeartbeats 1000000 in
theorem sX4_become_0 {G : gz_G} {d l0 s0 : Nat} {Q : Unit → gz_H → Prop} (a0 : Nat) (x1 : Int64) (x3 : Int64) (h : gz_H) (hf : gz_g (fX4_become_0  a0 x1 x3 h) Q) : gz_Ok G mX4_become (d + 1, l0, s0, 0, 0) 0 [.ref a0, .long x1, .retAddr 0, .long x3, .retAddr 0, .retAddr 0, .retAddr 0] [] h (gz_qu Q) := by
  unfold fX4_become_0 at hf
  refine gz_lload_n (pc := 0) dX4_become_0 rfl rfl ?_
  refine gz_lload_n (pc := 1) dX4_become_1 rfl rfl ?_
  refine gz_cSL (av := [.long x1, .long x3]) (st := []) (pc := 2) dX4_become_2 kl_RX4_16 rfl rfl (Nat.le_of_ble_eq_true rfl) (by show d + 0 + 0 + 1 ≤ d + 1; omega) (sX4_greatestDivisor (d := d + 0) (gz_gc hf)) (fun y_2 h_1 hf => ?_)
  refine gz_lstore (lv := [.ref a0, .long x1, .retAddr 0, .long x3, .retAddr 0, .long y_2, .retAddr 0]) (pc := 5) dX4_become_5 (by decide) rfl ?_
  refine gz_lload (pc := 7) dX4_become_7 rfl ?_
  refine gz_lconst (v := (0 : Int64)) (pc := 9) dX4_become_9 rfl ?_
  refine gz_lcmp (pc := 10) dX4_become_10 ?_
  refine gz_if_ne (tgt := 15) (pc := 11) dX4_become_11 rfl (fun c_3 => ?_) (fun c_3 => ?_)
  · have hf := gz_gF hf c_3
    refine gz_aload_n (pc := 15) dX4_become_15 rfl rfl ?_
    refine gz_lload_n (pc := 16) dX4_become_16 rfl rfl ?_
    refine gz_lload (pc := 17) dX4_become_17 rfl ?_
    refine gz_gk hf (fun c_4 hf => ?_)
    refine gz_ldiv (pc := 19) dX4_become_19 (gz_nzLs c_4) ?_
    refine gz_gk hf (fun c_5 hf => ?_)
    refine gz_putL (pc := 20) dX4_become_20 fw_X4_become_7 rfl (gz_shs c_5) ?_
    refine gz_nmH (fun h_6 eh_6 => ?_)
    have hf := gz_gl eh_6 hf
    refine gz_aload_n (pc := 23) dX4_become_23 rfl rfl ?_
    refine gz_lload_n (pc := 24) dX4_become_24 rfl rfl ?_
    refine gz_lload (pc := 25) dX4_become_25 rfl ?_
    refine gz_ldiv (pc := 27) dX4_become_27 (gz_nzLs c_4) ?_
    refine gz_gk hf (fun c_7 hf => ?_)
    refine gz_putL (pc := 28) dX4_become_28 fw_X4_become_13 rfl (gz_shs c_7) ?_
    refine gz_nmH (fun h_8 eh_8 => ?_)
    have hf := gz_gl eh_8 hf
    exact gz_uret (pc := 31) dX4_become_31 rfl hf
  · have hf := gz_gT hf c_3
    exact gz_uret (pc := 14) dX4_become_14 rfl hf
def fX4_become (a0 : Nat) (x1 : Int64) (x3 : Int64) (h : gz_H) : Option (Unit × gz_H) := fX4_become_0 a0 x1 x3 h
theorem sX4_become {G : gz_G} {d : Nat} {a0 : Nat} {x1 : Int64} {x3 : Int64} {h : gz_H} {Q : Unit → gz_H → Prop} (hf : gz_g (fX4_become a0 x1 x3 h) Q) : gz_Cl G mX4_become (d + 1) 0 0 [.ref a0, .long x1, .long x3] h (gz_qu Q) := gz_cl_of (lo := [.ref a0, .long x1, .retAddr 0, .long x3, .retAddr 0, .retAddr 0, .retAddr 0]) (by decide) rfl rfl (Nat.le_of_ble_eq_true rfl) (sX4_become_0 a0 x1 x3 h hf)
theorem dX5_init_0 : decode cX5_init 0 = .ok (.aload_n 0, 1) := by decide +kernel
theorem dX5_init_1 : decode cX5_init 1 = .ok (.invokespecial 3, 3) := by decide +kernel
theorem dX5_init_4 : decode cX5_init 4 = .ok (.return_, 1) := by decide +kernel
def fX5_init_0 (l0 s0 mc ms : Nat) (a0 : Nat) (h : gz_H) : Option (Unit × gz_H) :=
    gz_ck (gz_dc (l0 + mc = h.1.length ∧ s0 + ms = gz_ss h.1)) <|
    some ((), h)
set_option maxRecDepth 100000 in
set_option maxHeartbeats 1000000 in
theorem sX5_init_0 {G : gz_G} {d l0 s0 mc ms : Nat} {Q : Unit → gz_H → Prop} (a0 : Nat) (h : gz_H) (hf : gz_g (fX5_init_0 l0 s0 mc ms a0 h) Q) : gz_Ok G mX5_init (d + 1, l0, s0, mc, ms) 0 [.ref a0] [] h (gz_qu Q) := by
  unfold fX5_init_0 at hf
  refine gz_aload_n (pc := 0) dX5_init_0 rfl rfl ?_
  refine gz_obj (pc := 1) dX5_init_1 kob_RX5_3 (by show 1 ≤ d + 1; omega) (Nat.le_of_ble_eq_true rfl) ?_
  refine gz_gk hf (fun c_1 hf => ?_)
  exact gz_uretA (pc := 4) dX5_init_4 rfl (gz_dcs c_1).1 (gz_dcs c_1).2 hf
def fX5_init (mc ms : Nat) (a0 : Nat) (h : gz_H) : Option (Unit × gz_H) := fX5_init_0 h.1.length (gz_ss h.1) mc ms a0 h
theorem sX5_init {G : gz_G} {d mc ms : Nat} {a0 : Nat} {h : gz_H} {Q : Unit → gz_H → Prop} (hf : gz_g (fX5_init mc ms a0 h) Q) : gz_Cl G mX5_init (d + 1) mc ms [.ref a0] h (gz_qu Q) := gz_cl_of (lo := [.ref a0]) (by decide) rfl rfl (Nat.le_of_ble_eq_true rfl) (sX5_init_0 a0 h hf)
theorem dX5_skipBlanks_0 : decode cX5_skipBlanks 0 = .ok (.aload_n 0, 1) := by decide +kernel
theorem dX5_skipBlanks_1 : decode cX5_skipBlanks 1 = .ok (.getfield 19, 3) := by decide +kernel
theorem dX5_skipBlanks_4 : decode cX5_skipBlanks 4 = .ok (.aload_n 0, 1) := by decide +kernel
theorem dX5_skipBlanks_5 : decode cX5_skipBlanks 5 = .ok (.getfield 15, 3) := by decide +kernel
theorem dX5_skipBlanks_8 : decode cX5_skipBlanks 8 = .ok (.if_icmp .ge 30, 3) := by decide +kernel
theorem dX5_skipBlanks_11 : decode cX5_skipBlanks 11 = .ok (.aload_n 0, 1) := by decide +kernel
theorem dX5_skipBlanks_12 : decode cX5_skipBlanks 12 = .ok (.getfield 9, 3) := by decide +kernel
theorem dX5_skipBlanks_15 : decode cX5_skipBlanks 15 = .ok (.aload_n 0, 1) := by decide +kernel
theorem dX5_skipBlanks_16 : decode cX5_skipBlanks 16 = .ok (.getfield 19, 3) := by decide +kernel
theorem dX5_skipBlanks_19 : decode cX5_skipBlanks 19 = .ok (.iaload, 1) := by decide +kernel
theorem dX5_skipBlanks_20 : decode cX5_skipBlanks 20 = .ok (.bipush 32, 2) := by decide +kernel
theorem dX5_skipBlanks_22 : decode cX5_skipBlanks 22 = .ok (.if_icmp .ne 16, 3) := by decide +kernel
theorem dX5_skipBlanks_25 : decode cX5_skipBlanks 25 = .ok (.aload_n 0, 1) := by decide +kernel
theorem dX5_skipBlanks_26 : decode cX5_skipBlanks 26 = .ok (.dup, 1) := by decide +kernel
theorem dX5_skipBlanks_27 : decode cX5_skipBlanks 27 = .ok (.getfield 19, 3) := by decide +kernel
theorem dX5_skipBlanks_30 : decode cX5_skipBlanks 30 = .ok (.iconst 1, 1) := by decide +kernel
theorem dX5_skipBlanks_31 : decode cX5_skipBlanks 31 = .ok (.iadd, 1) := by decide +kernel
theorem dX5_skipBlanks_32 : decode cX5_skipBlanks 32 = .ok (.putfield 19, 3) := by decide +kernel
theorem dX5_skipBlanks_35 : decode cX5_skipBlanks 35 = .ok (.goto (-35), 3) := by decide +kernel
theorem dX5_skipBlanks_38 : decode cX5_skipBlanks 38 = .ok (.return_, 1) := by decide +kernel
def fX5_skipBlanks_0  : Nat → Nat → gz_H → Option (Unit × gz_H)
  | 0, _, _ => none
  | n + 1, a0, h =>
    gz_ck (gz_sh h a0 5 4) <|
    if (h.2.1 a0 1) ≤ (h.2.1 a0 2) then (
     some ((), h)
    ) else (
     gz_br (h.2.2.2 a0 0) fun r_3 =>
     gz_ck (gz_inb h r_3 10 (h.2.1 a0 2)) <|
     if (h.2.1 r_3 (h.2.1 a0 2).toNatClampNeg) = (32 : Int32) then (
      gz_lt (uI h a0 2 ((h.2.1 a0 2) + (1 : Int32))) fun h_6 =>
      fX5_skipBlanks_0 n a0 h_6
     ) else (
      some ((), h)
     )
    )
set_option maxRecDepth 100000 in
set_option maxHeartbeats 1000000 in
theorem sX5_skipBlanks_0 {G : gz_G} {d l0 s0 : Nat} {Q : Unit → gz_H → Prop} : ∀ (n : Nat) (a0 : Nat) (h : gz_H), gz_g (fX5_skipBlanks_0  n a0 h) Q → gz_Ok G mX5_skipBlanks (d + 0, l0, s0, 0, 0) 0 [.ref a0] [] h (gz_qu Q) := by
  intro n
  induction n with
  | zero => intro a0 h hf; exact False.elim hf
  | succ n ih =>
    intro a0 h hf
    rw [fX5_skipBlanks_0] at hf
    refine gz_aload_n (pc := 0) dX5_skipBlanks_0 rfl rfl ?_
    refine gz_gk hf (fun c_1 hf => ?_)
    refine gz_getI (pc := 1) dX5_skipBlanks_1 fl_RX5_19 rfl (gz_shs c_1) ?_
    refine gz_aload_n (pc := 4) dX5_skipBlanks_4 rfl rfl ?_
    refine gz_getI (pc := 5) dX5_skipBlanks_5 fl_RX5_15 rfl (gz_shs c_1) ?_
    refine gz_icmp_ge (tgt := 38) (pc := 8) dX5_skipBlanks_8 rfl (fun c_2 => ?_) (fun c_2 => ?_)
    · have hf := gz_gT hf c_2
      exact gz_uret (pc := 38) dX5_skipBlanks_38 rfl hf
    · have hf := gz_gF hf c_2
      refine gz_aload_n (pc := 11) dX5_skipBlanks_11 rfl rfl ?_
      refine gz_gb hf (fun r_3 er_3 hf => ?_)
      refine gz_getR (pc := 12) dX5_skipBlanks_12 fl_RX5_9 rfl (gz_shs c_1) er_3 ?_
      refine gz_aload_n (pc := 15) dX5_skipBlanks_15 rfl rfl ?_
      refine gz_getI (pc := 16) dX5_skipBlanks_16 fl_RX5_19 rfl (gz_shs c_1) ?_
      refine gz_gk hf (fun c_4 hf => ?_)
      refine gz_iald (pc := 19) dX5_skipBlanks_19 c_4 ?_
      refine gz_bipush (v := (32 : Int32)) (pc := 20) dX5_skipBlanks_20 rfl ?_
      refine gz_icmp_ne (tgt := 38) (pc := 22) dX5_skipBlanks_22 rfl (fun c_5 => ?_) (fun c_5 => ?_)
      · have hf := gz_gF hf c_5
        exact gz_uret (pc := 38) dX5_skipBlanks_38 rfl hf
      · have hf := gz_gT hf c_5
        refine gz_aload_n (pc := 25) dX5_skipBlanks_25 rfl rfl ?_
        refine gz_dup (pc := 26) dX5_skipBlanks_26 rfl ?_
        refine gz_getI (pc := 27) dX5_skipBlanks_27 fl_RX5_19 rfl (gz_shs c_1) ?_
        refine gz_iconst (v := (1 : Int32)) (pc := 30) dX5_skipBlanks_30 rfl ?_
        refine gz_iadd (pc := 31) dX5_skipBlanks_31 ?_
        refine gz_putI (pc := 32) dX5_skipBlanks_32 fw_X5_skipBlanks_19 rfl rfl rfl (gz_shs c_1) ?_
        refine gz_nmH (fun h_6 eh_6 => ?_)
        have hf := gz_gl eh_6 hf
        refine gz_goto (tgt := 0) (pc := 35) dX5_skipBlanks_35 rfl ?_
        exact ih a0 h_6 hf
def fX5_skipBlanks (a0 : Nat) (h : gz_H) : Option (Unit × gz_H) := fX5_skipBlanks_0 gz_fu a0 h
theorem sX5_skipBlanks {G : gz_G} {d : Nat} {a0 : Nat} {h : gz_H} {Q : Unit → gz_H → Prop} (hf : gz_g (fX5_skipBlanks a0 h) Q) : gz_Cl G mX5_skipBlanks (d + 0) 0 0 [.ref a0] h (gz_qu Q) := gz_cl_of (lo := [.ref a0]) (by decide) rfl rfl (Nat.le_of_ble_eq_true rfl) (sX5_skipBlanks_0 gz_fu a0 h hf)
theorem dX5_figure_0 : decode cX5_figure 0 = .ok (.aload_n 0, 1) := by decide +kernel
theorem dX5_figure_1 : decode cX5_figure 1 = .ok (.getfield 19, 3) := by decide +kernel
theorem dX5_figure_4 : decode cX5_figure 4 = .ok (.aload_n 0, 1) := by decide +kernel
theorem dX5_figure_5 : decode cX5_figure 5 = .ok (.getfield 15, 3) := by decide +kernel
theorem dX5_figure_8 : decode cX5_figure 8 = .ok (.if_icmp .ge 46, 3) := by decide +kernel
theorem dX5_figure_11 : decode cX5_figure 11 = .ok (.aload_n 0, 1) := by decide +kernel
theorem dX5_figure_12 : decode cX5_figure 12 = .ok (.getfield 9, 3) := by decide +kernel
theorem dX5_figure_15 : decode cX5_figure 15 = .ok (.aload_n 0, 1) := by decide +kernel
theorem dX5_figure_16 : decode cX5_figure 16 = .ok (.getfield 19, 3) := by decide +kernel
theorem dX5_figure_19 : decode cX5_figure 19 = .ok (.iaload, 1) := by decide +kernel
theorem dX5_figure_20 : decode cX5_figure 20 = .ok (.bipush 48, 2) := by decide +kernel
theorem dX5_figure_22 : decode cX5_figure 22 = .ok (.if_icmp .lt 32, 3) := by decide +kernel
theorem dX5_figure_25 : decode cX5_figure 25 = .ok (.aload_n 0, 1) := by decide +kernel
theorem dX5_figure_26 : decode cX5_figure 26 = .ok (.getfield 9, 3) := by decide +kernel
theorem dX5_figure_29 : decode cX5_figure 29 = .ok (.aload_n 0, 1) := by decide +kernel
theorem dX5_figure_30 : decode cX5_figure 30 = .ok (.getfield 19, 3) := by decide +kernel
theorem dX5_figure_33 : decode cX5_figure 33 = .ok (.iaload, 1) := by decide +kernel
theorem dX5_figure_34 : decode cX5_figure 34 = .ok (.bipush 57, 2) := by decide +kernel
theorem dX5_figure_36 : decode cX5_figure 36 = .ok (.if_icmp .gt 18, 3) := by decide +kernel
theorem dX5_figure_39 : decode cX5_figure 39 = .ok (.aload_n 0, 1) := by decide +kernel
theorem dX5_figure_40 : decode cX5_figure 40 = .ok (.getfield 9, 3) := by decide +kernel
theorem dX5_figure_43 : decode cX5_figure 43 = .ok (.aload_n 0, 1) := by decide +kernel
theorem dX5_figure_44 : decode cX5_figure 44 = .ok (.getfield 19, 3) := by decide +kernel
theorem dX5_figure_47 : decode cX5_figure 47 = .ok (.iaload, 1) := by decide +kernel
theorem dX5_figure_48 : decode cX5_figure 48 = .ok (.bipush 48, 2) := by decide +kernel
theorem dX5_figure_50 : decode cX5_figure 50 = .ok (.isub, 1) := by decide +kernel
theorem dX5_figure_51 : decode cX5_figure 51 = .ok (.goto 5, 3) := by decide +kernel
theorem dX5_figure_54 : decode cX5_figure 54 = .ok (.bipush (-9), 2) := by decide +kernel
theorem dX5_figure_56 : decode cX5_figure 56 = .ok (.ireturn, 1) := by decide +kernel
def fX5_figure_0  (a0 : Nat) (h : gz_H) : Option (Int32 × gz_H) :=
    gz_ck (gz_sh h a0 5 4) <|
    if (h.2.1 a0 1) ≤ (h.2.1 a0 2) then (
     some ((-9 : Int32), h)
    ) else (
     gz_br (h.2.2.2 a0 0) fun r_3 =>
     gz_ck (gz_inb h r_3 10 (h.2.1 a0 2)) <|
     if (h.2.1 r_3 (h.2.1 a0 2).toNatClampNeg) < (48 : Int32) then (
      some ((-9 : Int32), h)
     ) else (
      if (57 : Int32) < (h.2.1 r_3 (h.2.1 a0 2).toNatClampNeg) then (
       some ((-9 : Int32), h)
      ) else (
       some ((h.2.1 r_3 (h.2.1 a0 2).toNatClampNeg) - (48 : Int32), h)
      )
     )
    )
set_option maxRecDepth 100000 in
set_option maxHeartbeats 1000000 in
theorem sX5_figure_0 {G : gz_G} {d l0 s0 : Nat} {Q : Int32 → gz_H → Prop} (a0 : Nat) (h : gz_H) (hf : gz_g (fX5_figure_0  a0 h) Q) : gz_Ok G mX5_figure (d + 0, l0, s0, 0, 0) 0 [.ref a0] [] h (gz_qi Q) := by
  unfold fX5_figure_0 at hf
  refine gz_aload_n (pc := 0) dX5_figure_0 rfl rfl ?_
  refine gz_gk hf (fun c_1 hf => ?_)
  refine gz_getI (pc := 1) dX5_figure_1 fl_RX5_19 rfl (gz_shs c_1) ?_
  refine gz_aload_n (pc := 4) dX5_figure_4 rfl rfl ?_
  refine gz_getI (pc := 5) dX5_figure_5 fl_RX5_15 rfl (gz_shs c_1) ?_
  refine gz_icmp_ge (tgt := 54) (pc := 8) dX5_figure_8 rfl (fun c_2 => ?_) (fun c_2 => ?_)
  · have hf := gz_gT hf c_2
    refine gz_bipush (v := (-9 : Int32)) (pc := 54) dX5_figure_54 rfl ?_
    exact gz_irt (pc := 56) dX5_figure_56 rfl rfl hf
  · have hf := gz_gF hf c_2
    refine gz_aload_n (pc := 11) dX5_figure_11 rfl rfl ?_
    refine gz_gb hf (fun r_3 er_3 hf => ?_)
    refine gz_getR (pc := 12) dX5_figure_12 fl_RX5_9 rfl (gz_shs c_1) er_3 ?_
    refine gz_aload_n (pc := 15) dX5_figure_15 rfl rfl ?_
    refine gz_getI (pc := 16) dX5_figure_16 fl_RX5_19 rfl (gz_shs c_1) ?_
    refine gz_gk hf (fun c_4 hf => ?_)
    refine gz_iald (pc := 19) dX5_figure_19 c_4 ?_
    refine gz_bipush (v := (48 : Int32)) (pc := 20) dX5_figure_20 rfl ?_
    refine gz_icmp_lt (tgt := 54) (pc := 22) dX5_figure_22 rfl (fun c_5 => ?_) (fun c_5 => ?_)
    · have hf := gz_gT hf c_5
      refine gz_bipush (v := (-9 : Int32)) (pc := 54) dX5_figure_54 rfl ?_
      exact gz_irt (pc := 56) dX5_figure_56 rfl rfl hf
    · have hf := gz_gF hf c_5
      refine gz_aload_n (pc := 25) dX5_figure_25 rfl rfl ?_
      refine gz_getR (pc := 26) dX5_figure_26 fl_RX5_9 rfl (gz_shs c_1) er_3 ?_
      refine gz_aload_n (pc := 29) dX5_figure_29 rfl rfl ?_
      refine gz_getI (pc := 30) dX5_figure_30 fl_RX5_19 rfl (gz_shs c_1) ?_
      refine gz_iald (pc := 33) dX5_figure_33 c_4 ?_
      refine gz_bipush (v := (57 : Int32)) (pc := 34) dX5_figure_34 rfl ?_
      refine gz_icmp_gt (tgt := 54) (pc := 36) dX5_figure_36 rfl (fun c_6 => ?_) (fun c_6 => ?_)
      · have hf := gz_gT hf c_6
        refine gz_bipush (v := (-9 : Int32)) (pc := 54) dX5_figure_54 rfl ?_
        exact gz_irt (pc := 56) dX5_figure_56 rfl rfl hf
      · have hf := gz_gF hf c_6
        refine gz_aload_n (pc := 39) dX5_figure_39 rfl rfl ?_
        refine gz_getR (pc := 40) dX5_figure_40 fl_RX5_9 rfl (gz_shs c_1) er_3 ?_
        refine gz_aload_n (pc := 43) dX5_figure_43 rfl rfl ?_
        refine gz_getI (pc := 44) dX5_figure_44 fl_RX5_19 rfl (gz_shs c_1) ?_
        refine gz_iald (pc := 47) dX5_figure_47 c_4 ?_
        refine gz_bipush (v := (48 : Int32)) (pc := 48) dX5_figure_48 rfl ?_
        refine gz_isub (pc := 50) dX5_figure_50 ?_
        refine gz_goto (tgt := 56) (pc := 51) dX5_figure_51 rfl ?_
        exact gz_irt (pc := 56) dX5_figure_56 rfl rfl hf
def fX5_figure (a0 : Nat) (h : gz_H) : Option (Int32 × gz_H) := fX5_figure_0 a0 h
theorem sX5_figure {G : gz_G} {d : Nat} {a0 : Nat} {h : gz_H} {Q : Int32 → gz_H → Prop} (hf : gz_g (fX5_figure a0 h) Q) : gz_Cl G mX5_figure (d + 0) 0 0 [.ref a0] h (gz_qi Q) := gz_cl_of (lo := [.ref a0]) (by decide) rfl rfl (Nat.le_of_ble_eq_true rfl) (sX5_figure_0 a0 h hf)
