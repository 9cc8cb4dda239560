theorem dJ6_bitCount_0f7a4_0 : decode cJ6_bitCount_0f7a4 0 = .ok (.iload_n 0, 1) := by decide +kernel
theorem dJ6_bitCount_0f7a4_1 : decode cJ6_bitCount_0f7a4 1 = .ok (.iload_n 0, 1) := by decide +kernel
theorem dJ6_bitCount_0f7a4_2 : decode cJ6_bitCount_0f7a4 2 = .ok (.iconst 1, 1) := by decide +kernel
theorem dJ6_bitCount_0f7a4_3 : decode cJ6_bitCount_0f7a4 3 = .ok (.iushr, 1) := by decide +kernel
theorem dJ6_bitCount_0f7a4_4 : decode cJ6_bitCount_0f7a4 4 = .ok (.ldc_w 265, 3) := by decide +kernel
theorem dJ6_bitCount_0f7a4_7 : decode cJ6_bitCount_0f7a4 7 = .ok (.iand, 1) := by decide +kernel
theorem dJ6_bitCount_0f7a4_8 : decode cJ6_bitCount_0f7a4 8 = .ok (.isub, 1) := by decide +kernel
theorem dJ6_bitCount_0f7a4_9 : decode cJ6_bitCount_0f7a4 9 = .ok (.istore_n 0, 1) := by decide +kernel
theorem dJ6_bitCount_0f7a4_10 : decode cJ6_bitCount_0f7a4 10 = .ok (.iload_n 0, 1) := by decide +kernel
theorem dJ6_bitCount_0f7a4_11 : decode cJ6_bitCount_0f7a4 11 = .ok (.ldc_w 266, 3) := by decide +kernel
theorem dJ6_bitCount_0f7a4_14 : decode cJ6_bitCount_0f7a4 14 = .ok (.iand, 1) := by decide +kernel
theorem dJ6_bitCount_0f7a4_15 : decode cJ6_bitCount_0f7a4 15 = .ok (.iload_n 0, 1) := by decide +kernel
theorem dJ6_bitCount_0f7a4_16 : decode cJ6_bitCount_0f7a4 16 = .ok (.iconst 2, 1) := by decide +kernel
theorem dJ6_bitCount_0f7a4_17 : decode cJ6_bitCount_0f7a4 17 = .ok (.iushr, 1) := by decide +kernel
theorem dJ6_bitCount_0f7a4_18 : decode cJ6_bitCount_0f7a4 18 = .ok (.ldc_w 266, 3) := by decide +kernel
theorem dJ6_bitCount_0f7a4_21 : decode cJ6_bitCount_0f7a4 21 = .ok (.iand, 1) := by decide +kernel
theorem dJ6_bitCount_0f7a4_22 : decode cJ6_bitCount_0f7a4 22 = .ok (.iadd, 1) := by decide +kernel
theorem dJ6_bitCount_0f7a4_23 : decode cJ6_bitCount_0f7a4 23 = .ok (.istore_n 0, 1) := by decide +kernel
theorem dJ6_bitCount_0f7a4_24 : decode cJ6_bitCount_0f7a4 24 = .ok (.iload_n 0, 1) := by decide +kernel
theorem dJ6_bitCount_0f7a4_25 : decode cJ6_bitCount_0f7a4 25 = .ok (.iload_n 0, 1) := by decide +kernel
theorem dJ6_bitCount_0f7a4_26 : decode cJ6_bitCount_0f7a4 26 = .ok (.iconst 4, 1) := by decide +kernel
theorem dJ6_bitCount_0f7a4_27 : decode cJ6_bitCount_0f7a4 27 = .ok (.iushr, 1) := by decide +kernel
theorem dJ6_bitCount_0f7a4_28 : decode cJ6_bitCount_0f7a4 28 = .ok (.iadd, 1) := by decide +kernel
theorem dJ6_bitCount_0f7a4_29 : decode cJ6_bitCount_0f7a4 29 = .ok (.ldc_w 267, 3) := by decide +kernel
theorem dJ6_bitCount_0f7a4_32 : decode cJ6_bitCount_0f7a4 32 = .ok (.iand, 1) := by decide +kernel
theorem dJ6_bitCount_0f7a4_33 : decode cJ6_bitCount_0f7a4 33 = .ok (.istore_n 0, 1) := by decide +kernel
theorem dJ6_bitCount_0f7a4_34 : decode cJ6_bitCount_0f7a4 34 = .ok (.iload_n 0, 1) := by decide +kernel
theorem dJ6_bitCount_0f7a4_35 : decode cJ6_bitCount_0f7a4 35 = .ok (.iload_n 0, 1) := by decide +kernel
theorem dJ6_bitCount_0f7a4_36 : decode cJ6_bitCount_0f7a4 36 = .ok (.bipush 8, 2) := by decide +kernel
theorem dJ6_bitCount_0f7a4_38 : decode cJ6_bitCount_0f7a4 38 = .ok (.iushr, 1) := by decide +kernel
theorem dJ6_bitCount_0f7a4_39 : decode cJ6_bitCount_0f7a4 39 = .ok (.iadd, 1) := by decide +kernel
theorem dJ6_bitCount_0f7a4_40 : decode cJ6_bitCount_0f7a4 40 = .ok (.istore_n 0, 1) := by decide +kernel
theorem dJ6_bitCount_0f7a4_41 : decode cJ6_bitCount_0f7a4 41 = .ok (.iload_n 0, 1) := by decide +kernel
theorem dJ6_bitCount_0f7a4_42 : decode cJ6_bitCount_0f7a4 42 = .ok (.iload_n 0, 1) := by decide +kernel
theorem dJ6_bitCount_0f7a4_43 : decode cJ6_bitCount_0f7a4 43 = .ok (.bipush 16, 2) := by decide +kernel
theorem dJ6_bitCount_0f7a4_45 : decode cJ6_bitCount_0f7a4 45 = .ok (.iushr, 1) := by decide +kernel
theorem dJ6_bitCount_0f7a4_46 : decode cJ6_bitCount_0f7a4 46 = .ok (.iadd, 1) := by decide +kernel
theorem dJ6_bitCount_0f7a4_47 : decode cJ6_bitCount_0f7a4 47 = .ok (.istore_n 0, 1) := by decide +kernel
theorem dJ6_bitCount_0f7a4_48 : decode cJ6_bitCount_0f7a4 48 = .ok (.iload_n 0, 1) := by decide +kernel
theorem dJ6_bitCount_0f7a4_49 : decode cJ6_bitCount_0f7a4 49 = .ok (.bipush 63, 2) := by decide +kernel
theorem dJ6_bitCount_0f7a4_51 : decode cJ6_bitCount_0f7a4 51 = .ok (.iand, 1) := by decide +kernel
theorem dJ6_bitCount_0f7a4_52 : decode cJ6_bitCount_0f7a4 52 = .ok (.ireturn, 1) := by decide +kernel
def fJ6_bitCount_0f7a4_0  (x0 : Int32) (h : gz_H) : Option (Int32 × gz_H) :=
    gz_lt (x0 - (((x0.toUInt32 >>> ((1 : Int32).toUInt32 &&& Int32.toUInt32 31)).toInt32) &&& (1431655765 : Int32))) fun (y_1 : Int32) =>
    gz_lt ((y_1 &&& (858993459 : Int32)) + (((y_1.toUInt32 >>> ((2 : Int32).toUInt32 &&& Int32.toUInt32 31)).toInt32) &&& (858993459 : Int32))) fun (y_2 : Int32) =>
    gz_lt ((y_2 + ((y_2.toUInt32 >>> ((4 : Int32).toUInt32 &&& Int32.toUInt32 31)).toInt32)) &&& (252645135 : Int32)) fun (y_3 : Int32) =>
    gz_lt (y_3 + ((y_3.toUInt32 >>> ((8 : Int32).toUInt32 &&& Int32.toUInt32 31)).toInt32)) fun (y_4 : Int32) =>
    gz_lt (y_4 + ((y_4.toUInt32 >>> ((16 : Int32).toUInt32 &&& Int32.toUInt32 31)).toInt32)) fun (y_5 : Int32) =>
    some (y_5 &&& (63 : Int32), h)
set_option maxRecDepth 100000 in
set_option maxHeartbeats 1000000 in
theorem sJ6_bitCount_0f7a4_0 {G : gz_G} {d l0 s0 : Nat} {Q : Int32 → gz_H → Prop} (x0 : Int32) (h : gz_H) (hf : gz_g (fJ6_bitCount_0f7a4_0  x0 h) Q) : gz_Ok G mJ6_bitCount_0f7a4 (d + 0, l0, s0, 0, 0) 0 [.int x0] [] h (gz_qi Q) := by
  unfold fJ6_bitCount_0f7a4_0 at hf
  refine gz_iload_n (pc := 0) dJ6_bitCount_0f7a4_0 rfl rfl ?_
  refine gz_iload_n (pc := 1) dJ6_bitCount_0f7a4_1 rfl rfl ?_
  refine gz_iconst (v := (1 : Int32)) (pc := 2) dJ6_bitCount_0f7a4_2 rfl ?_
  refine gz_iushr (pc := 3) dJ6_bitCount_0f7a4_3 ?_
  refine gz_ldcw (v := (1431655765 : Int32)) (pc := 4) dJ6_bitCount_0f7a4_4 kc_RJ6_265 ?_
  refine gz_iand (pc := 7) dJ6_bitCount_0f7a4_7 ?_
  refine gz_isub (pc := 8) dJ6_bitCount_0f7a4_8 ?_
  refine gz_nmI (fun y_1 ey_1 => ?_)
  have hf := gz_gl ey_1 hf
  refine gz_istore_n (lv := [.int y_1]) (pc := 9) dJ6_bitCount_0f7a4_9 rfl (by decide) rfl ?_
  refine gz_iload_n (pc := 10) dJ6_bitCount_0f7a4_10 rfl rfl ?_
  refine gz_ldcw (v := (858993459 : Int32)) (pc := 11) dJ6_bitCount_0f7a4_11 kc_RJ6_266 ?_
  refine gz_iand (pc := 14) dJ6_bitCount_0f7a4_14 ?_
  refine gz_iload_n (pc := 15) dJ6_bitCount_0f7a4_15 rfl rfl ?_
  refine gz_iconst (v := (2 : Int32)) (pc := 16) dJ6_bitCount_0f7a4_16 rfl ?_
  refine gz_iushr (pc := 17) dJ6_bitCount_0f7a4_17 ?_
  refine gz_ldcw (v := (858993459 : Int32)) (pc := 18) dJ6_bitCount_0f7a4_18 kc_RJ6_266 ?_
  refine gz_iand (pc := 21) dJ6_bitCount_0f7a4_21 ?_
  refine gz_iadd (pc := 22) dJ6_bitCount_0f7a4_22 ?_
  refine gz_nmI (fun y_2 ey_2 => ?_)
  have hf := gz_gl ey_2 hf
  refine gz_istore_n (lv := [.int y_2]) (pc := 23) dJ6_bitCount_0f7a4_23 rfl (by decide) rfl ?_
  refine gz_iload_n (pc := 24) dJ6_bitCount_0f7a4_24 rfl rfl ?_
  refine gz_iload_n (pc := 25) dJ6_bitCount_0f7a4_25 rfl rfl ?_
  refine gz_iconst (v := (4 : Int32)) (pc := 26) dJ6_bitCount_0f7a4_26 rfl ?_
  refine gz_iushr (pc := 27) dJ6_bitCount_0f7a4_27 ?_
  refine gz_iadd (pc := 28) dJ6_bitCount_0f7a4_28 ?_
  refine gz_ldcw (v := (252645135 : Int32)) (pc := 29) dJ6_bitCount_0f7a4_29 kc_RJ6_267 ?_
  refine gz_iand (pc := 32) dJ6_bitCount_0f7a4_32 ?_
  refine gz_nmI (fun y_3 ey_3 => ?_)
  have hf := gz_gl ey_3 hf
  refine gz_istore_n (lv := [.int y_3]) (pc := 33) dJ6_bitCount_0f7a4_33 rfl (by decide) rfl ?_
  refine gz_iload_n (pc := 34) dJ6_bitCount_0f7a4_34 rfl rfl ?_
  refine gz_iload_n (pc := 35) dJ6_bitCount_0f7a4_35 rfl rfl ?_
  refine gz_bipush (v := (8 : Int32)) (pc := 36) dJ6_bitCount_0f7a4_36 rfl ?_
  refine gz_iushr (pc := 38) dJ6_bitCount_0f7a4_38 ?_
  refine gz_iadd (pc := 39) dJ6_bitCount_0f7a4_39 ?_
  refine gz_nmI (fun y_4 ey_4 => ?_)
  have hf := gz_gl ey_4 hf
  refine gz_istore_n (lv := [.int y_4]) (pc := 40) dJ6_bitCount_0f7a4_40 rfl (by decide) rfl ?_
  refine gz_iload_n (pc := 41) dJ6_bitCount_0f7a4_41 rfl rfl ?_
  refine gz_iload_n (pc := 42) dJ6_bitCount_0f7a4_42 rfl rfl ?_
  refine gz_bipush (v := (16 : Int32)) (pc := 43) dJ6_bitCount_0f7a4_43 rfl ?_
  refine gz_iushr (pc := 45) dJ6_bitCount_0f7a4_45 ?_
  refine gz_iadd (pc := 46) dJ6_bitCount_0f7a4_46 ?_
  refine gz_nmI (fun y_5 ey_5 => ?_)
  have hf := gz_gl ey_5 hf
  refine gz_istore_n (lv := [.int y_5]) (pc := 47) dJ6_bitCount_0f7a4_47 rfl (by decide) rfl ?_
  refine gz_iload_n (pc := 48) dJ6_bitCount_0f7a4_48 rfl rfl ?_
  refine gz_bipush (v := (63 : Int32)) (pc := 49) dJ6_bitCount_0f7a4_49 rfl ?_
  refine gz_iand (pc := 51) dJ6_bitCount_0f7a4_51 ?_
  exact gz_irt (pc := 52) dJ6_bitCount_0f7a4_52 rfl rfl hf
def fJ6_bitCount_0f7a4 (x0 : Int32) (h : gz_H) : Option (Int32 × gz_H) := fJ6_bitCount_0f7a4_0 x0 h
theorem sJ6_bitCount_0f7a4 {G : gz_G} {d : Nat} {x0 : Int32} {h : gz_H} {Q : Int32 → gz_H → Prop} (hf : gz_g (fJ6_bitCount_0f7a4 x0 h) Q) : gz_Cl G mJ6_bitCount_0f7a4 (d + 0) 0 0 [.int x0] h (gz_qi Q) := gz_cl_of (lo := [.int x0]) (by decide) rfl rfl (Nat.le_of_ble_eq_true rfl) (sJ6_bitCount_0f7a4_0 x0 h hf)
theorem dX2_placeInOrder_0 : decode cX2_placeInOrder 0 = .ok (.iconst 0, 1) := by decide +kernel
theorem dX2_placeInOrder_1 : decode cX2_placeInOrder 1 = .ok (.istore_n 2, 1) := by decide +kernel
theorem dX2_placeInOrder_2 : decode cX2_placeInOrder 2 = .ok (.iload_n 2, 1) := by decide +kernel
theorem dX2_placeInOrder_3 : decode cX2_placeInOrder 3 = .ok (.aload_n 0, 1) := by decide +kernel
theorem dX2_placeInOrder_4 : decode cX2_placeInOrder 4 = .ok (.getfield 25, 3) := by decide +kernel
theorem dX2_placeInOrder_7 : decode cX2_placeInOrder 7 = .ok (.if_icmp .ge 21, 3) := by decide +kernel
theorem dX2_placeInOrder_10 : decode cX2_placeInOrder 10 = .ok (.aload_n 0, 1) := by decide +kernel
theorem dX2_placeInOrder_11 : decode cX2_placeInOrder 11 = .ok (.getfield 9, 3) := by decide +kernel
theorem dX2_placeInOrder_14 : decode cX2_placeInOrder 14 = .ok (.iload_n 2, 1) := by decide +kernel
theorem dX2_placeInOrder_15 : decode cX2_placeInOrder 15 = .ok (.iaload, 1) := by decide +kernel
theorem dX2_placeInOrder_16 : decode cX2_placeInOrder 16 = .ok (.iload_n 1, 1) := by decide +kernel
theorem dX2_placeInOrder_17 : decode cX2_placeInOrder 17 = .ok (.if_icmp .ne 5, 3) := by decide +kernel
theorem dX2_placeInOrder_20 : decode cX2_placeInOrder 20 = .ok (.iload_n 2, 1) := by decide +kernel
theorem dX2_placeInOrder_21 : decode cX2_placeInOrder 21 = .ok (.ireturn, 1) := by decide +kernel
theorem dX2_placeInOrder_22 : decode cX2_placeInOrder 22 = .ok (.iinc 2 1, 3) := by decide +kernel
theorem dX2_placeInOrder_25 : decode cX2_placeInOrder 25 = .ok (.goto (-23), 3) := by decide +kernel
theorem dX2_placeInOrder_28 : decode cX2_placeInOrder 28 = .ok (.bipush (-9), 2) := by decide +kernel
theorem dX2_placeInOrder_30 : decode cX2_placeInOrder 30 = .ok (.ireturn, 1) := by decide +kernel
def fX2_placeInOrder_2  : Nat → Nat → Int32 → Int32 → gz_H → Option (Int32 × gz_H)
  | 0, _, _, _, _ => none
  | n + 1, a0, x1, x2, h =>
    gz_ck (h.1[a0]? = some (2, 6)) <|
    if (h.2.1 a0 1) ≤ x2 then (
     some ((-9 : Int32), h)
    ) else (
     gz_br (h.2.2.2 a0 0) fun r_3 =>
     gz_ck (gz_inb h r_3 10 x2 = true) <|
     if (h.2.1 r_3 x2.toNatClampNeg) = x1 then (
      some (x2, h)
     ) else (
      fX2_placeInOrder_2 n a0 x1 (x2 + 1) h
     )
    )
set_option maxRecDepth 100000 in
set_option maxHeartbeats 1000000 in
theorem sX2_placeInOrder_2 {G : gz_G} {d l0 s0 : Nat} {Q : Int32 → gz_H → Prop} : ∀ (n : Nat) (a0 : Nat) (x1 : Int32) (x2 : Int32) (h : gz_H), gz_g (fX2_placeInOrder_2  n a0 x1 x2 h) Q → gz_Ok G mX2_placeInOrder (d + 0, l0, s0, 0, 0) 2 [.ref a0, .int x1, .int x2] [] h (gz_qi Q) := by
  intro n
  induction n with
  | zero => intro a0 x1 x2 h hf; exact False.elim hf
  | succ n ih =>
    intro a0 x1 x2 h hf
    rw [fX2_placeInOrder_2] at hf
    refine gz_iload_n (pc := 2) dX2_placeInOrder_2 rfl rfl ?_
    refine gz_aload_n (pc := 3) dX2_placeInOrder_3 rfl rfl ?_
    refine gz_gk hf (fun c_1 hf => ?_)
    refine gz_getI (pc := 4) dX2_placeInOrder_4 fl_RX2_25 rfl c_1 ?_
    refine gz_icmp_ge (tgt := 28) (pc := 7) dX2_placeInOrder_7 rfl (fun c_2 => ?_) (fun c_2 => ?_)
    · have hf := gz_gT hf c_2
      refine gz_bipush (v := (-9 : Int32)) (pc := 28) dX2_placeInOrder_28 rfl ?_
      exact gz_irt (pc := 30) dX2_placeInOrder_30 rfl rfl hf
    · have hf := gz_gF hf c_2
      refine gz_aload_n (pc := 10) dX2_placeInOrder_10 rfl rfl ?_
      refine gz_gb hf (fun r_3 er_3 hf => ?_)
      refine gz_getR (pc := 11) dX2_placeInOrder_11 fl_RX2_9 rfl c_1 er_3 ?_
      refine gz_iload_n (pc := 14) dX2_placeInOrder_14 rfl rfl ?_
      refine gz_gk hf (fun c_4 hf => ?_)
      refine gz_iald (pc := 15) dX2_placeInOrder_15 c_4 ?_
      refine gz_iload_n (pc := 16) dX2_placeInOrder_16 rfl rfl ?_
      refine gz_icmp_ne (tgt := 22) (pc := 17) dX2_placeInOrder_17 rfl (fun c_5 => ?_) (fun c_5 => ?_)
      · have hf := gz_gF hf c_5
        refine gz_iinc (v := x2 + 1) (lv := [.ref a0, .int x1, .int (x2 + 1)]) (pc := 22) dX2_placeInOrder_22 rfl rfl (by decide) rfl ?_
        refine gz_goto (tgt := 2) (pc := 25) dX2_placeInOrder_25 rfl ?_
        exact ih a0 x1 (x2 + 1) h hf
      · have hf := gz_gT hf c_5
        refine gz_iload_n (pc := 20) dX2_placeInOrder_20 rfl rfl ?_
        exact gz_irt (pc := 21) dX2_placeInOrder_21 rfl rfl hf
def fX2_placeInOrder_0  (a0 : Nat) (x1 : Int32) (h : gz_H) : Option (Int32 × gz_H) :=
    fX2_placeInOrder_2 gz_fu a0 x1 (0 : Int32) h
set_option maxRecDepth 100000 in
set_option maxHeartbeats 1000000 in
theorem sX2_placeInOrder_0 {G : gz_G} {d l0 s0 : Nat} {Q : Int32 → gz_H → Prop} (a0 : Nat) (x1 : Int32) (h : gz_H) (hf : gz_g (fX2_placeInOrder_0  a0 x1 h) Q) : gz_Ok G mX2_placeInOrder (d + 0, l0, s0, 0, 0) 0 [.ref a0, .int x1, .retAddr 0] [] h (gz_qi Q) := by
  unfold fX2_placeInOrder_0 at hf
  refine gz_iconst (v := (0 : Int32)) (pc := 0) dX2_placeInOrder_0 rfl ?_
  refine gz_istore_n (lv := [.ref a0, .int x1, .int (0 : Int32)]) (pc := 1) dX2_placeInOrder_1 rfl (by decide) rfl ?_
  exact sX2_placeInOrder_2 gz_fu a0 x1 (0 : Int32) h hf
def fX2_placeInOrder (a0 : Nat) (x1 : Int32) (h : gz_H) : Option (Int32 × gz_H) := fX2_placeInOrder_0 a0 x1 h
theorem sX2_placeInOrder {G : gz_G} {d : Nat} {a0 : Nat} {x1 : Int32} {h : gz_H} {Q : Int32 → gz_H → Prop} (hf : gz_g (fX2_placeInOrder a0 x1 h) Q) : gz_Cl G mX2_placeInOrder (d + 0) 0 0 [.ref a0, .int x1] h (gz_qi Q) := gz_cl_of (lo := [.ref a0, .int x1, .retAddr 0]) (by decide) rfl rfl (Nat.le_of_ble_eq_true rfl) (sX2_placeInOrder_0 a0 x1 h hf)
theorem dX2_removeAt_0 : decode cX2_removeAt 0 = .ok (.iload_n 1, 1) := by decide +kernel
theorem dX2_removeAt_1 : decode cX2_removeAt 1 = .ok (.ifCond .lt 11, 3) := by decide +kernel
theorem dX2_removeAt_4 : decode cX2_removeAt 4 = .ok (.iload_n 1, 1) := by decide +kernel
theorem dX2_removeAt_5 : decode cX2_removeAt 5 = .ok (.aload_n 0, 1) := by decide +kernel
theorem dX2_removeAt_6 : decode cX2_removeAt 6 = .ok (.getfield 25, 3) := by decide +kernel
theorem dX2_removeAt_9 : decode cX2_removeAt 9 = .ok (.if_icmp .lt 4, 3) := by decide +kernel
theorem dX2_removeAt_12 : decode cX2_removeAt 12 = .ok (.return_, 1) := by decide +kernel
theorem dX2_removeAt_13 : decode cX2_removeAt 13 = .ok (.iload_n 1, 1) := by decide +kernel
theorem dX2_removeAt_14 : decode cX2_removeAt 14 = .ok (.istore_n 2, 1) := by decide +kernel
theorem dX2_removeAt_15 : decode cX2_removeAt 15 = .ok (.iload_n 2, 1) := by decide +kernel
theorem dX2_removeAt_16 : decode cX2_removeAt 16 = .ok (.iconst 1, 1) := by decide +kernel
theorem dX2_removeAt_17 : decode cX2_removeAt 17 = .ok (.iadd, 1) := by decide +kernel
theorem dX2_removeAt_18 : decode cX2_removeAt 18 = .ok (.aload_n 0, 1) := by decide +kernel
theorem dX2_removeAt_19 : decode cX2_removeAt 19 = .ok (.getfield 25, 3) := by decide +kernel
theorem dX2_removeAt_22 : decode cX2_removeAt 22 = .ok (.if_icmp .ge 23, 3) := by decide +kernel
theorem dX2_removeAt_25 : decode cX2_removeAt 25 = .ok (.aload_n 0, 1) := by decide +kernel
theorem dX2_removeAt_26 : decode cX2_removeAt 26 = .ok (.getfield 9, 3) := by decide +kernel
theorem dX2_removeAt_29 : decode cX2_removeAt 29 = .ok (.iload_n 2, 1) := by decide +kernel
theorem dX2_removeAt_30 : decode cX2_removeAt 30 = .ok (.aload_n 0, 1) := by decide +kernel
theorem dX2_removeAt_31 : decode cX2_removeAt 31 = .ok (.getfield 9, 3) := by decide +kernel
theorem dX2_removeAt_34 : decode cX2_removeAt 34 = .ok (.iload_n 2, 1) := by decide +kernel
theorem dX2_removeAt_35 : decode cX2_removeAt 35 = .ok (.iconst 1, 1) := by decide +kernel
theorem dX2_removeAt_36 : decode cX2_removeAt 36 = .ok (.iadd, 1) := by decide +kernel
theorem dX2_removeAt_37 : decode cX2_removeAt 37 = .ok (.iaload, 1) := by decide +kernel
theorem dX2_removeAt_38 : decode cX2_removeAt 38 = .ok (.iastore, 1) := by decide +kernel
theorem dX2_removeAt_39 : decode cX2_removeAt 39 = .ok (.iinc 2 1, 3) := by decide +kernel
theorem dX2_removeAt_42 : decode cX2_removeAt 42 = .ok (.goto (-27), 3) := by decide +kernel
theorem dX2_removeAt_45 : decode cX2_removeAt 45 = .ok (.aload_n 0, 1) := by decide +kernel
theorem dX2_removeAt_46 : decode cX2_removeAt 46 = .ok (.dup, 1) := by decide +kernel
theorem dX2_removeAt_47 : decode cX2_removeAt 47 = .ok (.getfield 25, 3) := by decide +kernel
theorem dX2_removeAt_50 : decode cX2_removeAt 50 = .ok (.iconst 1, 1) := by decide +kernel
theorem dX2_removeAt_51 : decode cX2_removeAt 51 = .ok (.isub, 1) := by decide +kernel
theorem dX2_removeAt_52 : decode cX2_removeAt 52 = .ok (.putfield 25, 3) := by decide +kernel
theorem dX2_removeAt_55 : decode cX2_removeAt 55 = .ok (.return_, 1) := by decide +kernel
def fX2_removeAt_15  : Nat → Nat → Int32 → gz_H → Option (Unit × gz_H)
  | 0, _, _, _ => none
  | n + 1, a0, x2, h =>
    gz_ck (h.1[a0]? = some (2, 6)) <|
    if (h.2.1 a0 1) ≤ (x2 + (1 : Int32)) then (
     gz_lt (uI h a0 1 ((h.2.1 a0 1) - (1 : Int32))) fun h_3 =>
     some ((), h_3)
    ) else (
     gz_br (h.2.2.2 a0 0) fun r_4 =>
     gz_ck (gz_inb h r_4 10 (x2 + (1 : Int32)) = true) <|
     gz_ck (gz_inb h r_4 10 x2 = true) <|
     gz_lt (uI h r_4 x2.toNatClampNeg (h.2.1 r_4 (x2 + (1 : Int32)).toNatClampNeg)) fun h_7 =>
     fX2_removeAt_15 n a0 (x2 + 1) h_7
    )
set_option maxRecDepth 100000 in
set_option maxHeartbeats 1000000 in
theorem sX2_removeAt_15 {G : gz_G} {d l0 s0 : Nat} {Q : Unit → gz_H → Prop} : ∀ (n : Nat) (a0 : Nat) (x2 : Int32) (h : gz_H), gz_g (fX2_removeAt_15  n a0 x2 h) Q → gz_Ok G mX2_removeAt (d + 0, l0, s0, 0, 0) 15 [.ref a0, .retAddr 0, .int x2] [] h (gz_qu Q) := by
  intro n
  induction n with
  | zero => intro a0 x2 h hf; exact False.elim hf
  | succ n ih =>
    intro a0 x2 h hf
    rw [fX2_removeAt_15] at hf
    refine gz_iload_n (pc := 15) dX2_removeAt_15 rfl rfl ?_
    refine gz_iconst (v := (1 : Int32)) (pc := 16) dX2_removeAt_16 rfl ?_
    refine gz_iadd (pc := 17) dX2_removeAt_17 ?_
    refine gz_aload_n (pc := 18) dX2_removeAt_18 rfl rfl ?_
    refine gz_gk hf (fun c_1 hf => ?_)
    refine gz_getI (pc := 19) dX2_removeAt_19 fl_RX2_25 rfl c_1 ?_
    refine gz_icmp_ge (tgt := 45) (pc := 22) dX2_removeAt_22 rfl (fun c_2 => ?_) (fun c_2 => ?_)
    · have hf := gz_gT hf c_2
      refine gz_aload_n (pc := 45) dX2_removeAt_45 rfl rfl ?_
      refine gz_dup (pc := 46) dX2_removeAt_46 rfl ?_
      refine gz_getI (pc := 47) dX2_removeAt_47 fl_RX2_25 rfl c_1 ?_
      refine gz_iconst (v := (1 : Int32)) (pc := 50) dX2_removeAt_50 rfl ?_
      refine gz_isub (pc := 51) dX2_removeAt_51 ?_
      refine gz_putI (pc := 52) dX2_removeAt_52 fw_X2_removeAt_25 rfl rfl rfl c_1 ?_
      refine gz_nmH (fun h_3 eh_3 => ?_)
      have hf := gz_gl eh_3 hf
      exact gz_uret (pc := 55) dX2_removeAt_55 rfl hf
    · have hf := gz_gF hf c_2
      refine gz_aload_n (pc := 25) dX2_removeAt_25 rfl rfl ?_
      refine gz_gb hf (fun r_4 er_4 hf => ?_)
      refine gz_getR (pc := 26) dX2_removeAt_26 fl_RX2_9 rfl c_1 er_4 ?_
      refine gz_iload_n (pc := 29) dX2_removeAt_29 rfl rfl ?_
      refine gz_aload_n (pc := 30) dX2_removeAt_30 rfl rfl ?_
      refine gz_getR (pc := 31) dX2_removeAt_31 fl_RX2_9 rfl c_1 er_4 ?_
      refine gz_iload_n (pc := 34) dX2_removeAt_34 rfl rfl ?_
      refine gz_iconst (v := (1 : Int32)) (pc := 35) dX2_removeAt_35 rfl ?_
      refine gz_iadd (pc := 36) dX2_removeAt_36 ?_
      refine gz_gk hf (fun c_5 hf => ?_)
      refine gz_iald (pc := 37) dX2_removeAt_37 c_5 ?_
      refine gz_gk hf (fun c_6 hf => ?_)
      refine gz_iast (pc := 38) dX2_removeAt_38 c_6 ?_
      refine gz_nmH (fun h_7 eh_7 => ?_)
      have hf := gz_gl eh_7 hf
      refine gz_iinc (v := x2 + 1) (lv := [.ref a0, .retAddr 0, .int (x2 + 1)]) (pc := 39) dX2_removeAt_39 rfl rfl (by decide) rfl ?_
      refine gz_goto (tgt := 15) (pc := 42) dX2_removeAt_42 rfl ?_
      exact ih a0 (x2 + 1) h_7 hf
def fX2_removeAt_0  (a0 : Nat) (x1 : Int32) (h : gz_H) : Option (Unit × gz_H) :=
    if x1 < 0 then (
     some ((), h)
    ) else (
     gz_ck (h.1[a0]? = some (2, 6)) <|
     if x1 < (h.2.1 a0 1) then (
      fX2_removeAt_15 gz_fu a0 x1 h
     ) else (
      some ((), h)
     )
    )
set_option maxRecDepth 100000 in
set_option maxHeartbeats 1000000 in
theorem sX2_removeAt_0 {G : gz_G} {d l0 s0 : Nat} {Q : Unit → gz_H → Prop} (a0 : Nat) (x1 : Int32) (h : gz_H) (hf : gz_g (fX2_removeAt_0  a0 x1 h) Q) : gz_Ok G mX2_removeAt (d + 0, l0, s0, 0, 0) 0 [.ref a0, .int x1, .retAddr 0] [] h (gz_qu Q) := by
  unfold fX2_removeAt_0 at hf
  refine gz_iload_n (pc := 0) dX2_removeAt_0 rfl rfl ?_
  refine gz_if_lt (tgt := 12) (pc := 1) dX2_removeAt_1 rfl (fun c_1 => ?_) (fun c_1 => ?_)
  · have hf := gz_gT hf c_1
    exact gz_uret (pc := 12) dX2_removeAt_12 rfl hf
  · have hf := gz_gF hf c_1
    refine gz_iload_n (pc := 4) dX2_removeAt_4 rfl rfl ?_
    refine gz_aload_n (pc := 5) dX2_removeAt_5 rfl rfl ?_
    refine gz_gk hf (fun c_2 hf => ?_)
    refine gz_getI (pc := 6) dX2_removeAt_6 fl_RX2_25 rfl c_2 ?_
    refine gz_icmp_lt (tgt := 13) (pc := 9) dX2_removeAt_9 rfl (fun c_3 => ?_) (fun c_3 => ?_)
    · have hf := gz_gT hf c_3
      refine gz_iload_n (pc := 13) dX2_removeAt_13 rfl rfl ?_
      refine gz_istore_n (lv := [.ref a0, .int x1, .int x1]) (pc := 14) dX2_removeAt_14 rfl (by decide) rfl ?_
      refine gz_fg (lv := [.ref a0, .retAddr 0, .int x1]) ⟨Or.inr rfl, ⟨Or.inl rfl, ⟨Or.inr rfl, trivial⟩⟩⟩ ?_
      exact sX2_removeAt_15 gz_fu a0 x1 h hf
    · have hf := gz_gF hf c_3
      exact gz_uret (pc := 12) dX2_removeAt_12 rfl hf
def fX2_removeAt (a0 : Nat) (x1 : Int32) (h : gz_H) : Option (Unit × gz_H) := fX2_removeAt_0 a0 x1 h
theorem sX2_removeAt {G : gz_G} {d : Nat} {a0 : Nat} {x1 : Int32} {h : gz_H} {Q : Unit → gz_H → Prop} (hf : gz_g (fX2_removeAt a0 x1 h) Q) : gz_Cl G mX2_removeAt (d + 0) 0 0 [.ref a0, .int x1] h (gz_qu Q) := gz_cl_of (lo := [.ref a0, .int x1, .retAddr 0]) (by decide) rfl rfl (Nat.le_of_ble_eq_true rfl) (sX2_removeAt_0 a0 x1 h hf)
theorem dX2_isFilled_0 : decode cX2_isFilled 0 = .ok (.aload_n 0, 1) := by decide +kernel
theorem dX2_isFilled_1 : decode cX2_isFilled 1 = .ok (.getfield 25, 3) := by decide +kernel
theorem dX2_isFilled_4 : decode cX2_isFilled 4 = .ok (.aload_n 0, 1) := by decide +kernel
theorem dX2_isFilled_5 : decode cX2_isFilled 5 = .ok (.getfield 19, 3) := by decide +kernel
theorem dX2_isFilled_8 : decode cX2_isFilled 8 = .ok (.if_icmp .lt 7, 3) := by decide +kernel
theorem dX2_isFilled_11 : decode cX2_isFilled 11 = .ok (.iconst 1, 1) := by decide +kernel
theorem dX2_isFilled_12 : decode cX2_isFilled 12 = .ok (.goto 4, 3) := by decide +kernel
theorem dX2_isFilled_15 : decode cX2_isFilled 15 = .ok (.iconst 0, 1) := by decide +kernel
theorem dX2_isFilled_16 : decode cX2_isFilled 16 = .ok (.ireturn, 1) := by decide +kernel
def fX2_isFilled_0  (a0 : Nat) (h : gz_H) : Option (Int32 × gz_H) :=
    gz_ck (h.1[a0]? = some (2, 6)) <|
    if (h.2.1 a0 1) < (h.2.1 a0 3) then (
     some ((0 : Int32), h)
    ) else (
     some ((1 : Int32), h)
    )
set_option maxRecDepth 100000 in
set_option maxHeartbeats 1000000 in
theorem sX2_isFilled_0 {G : gz_G} {d l0 s0 : Nat} {Q : Int32 → gz_H → Prop} (a0 : Nat) (h : gz_H) (hf : gz_g (fX2_isFilled_0  a0 h) Q) : gz_Ok G mX2_isFilled (d + 0, l0, s0, 0, 0) 0 [.ref a0] [] h (gz_qi Q) := by
  unfold fX2_isFilled_0 at hf
  refine gz_aload_n (pc := 0) dX2_isFilled_0 rfl rfl ?_
  refine gz_gk hf (fun c_1 hf => ?_)
  refine gz_getI (pc := 1) dX2_isFilled_1 fl_RX2_25 rfl c_1 ?_
  refine gz_aload_n (pc := 4) dX2_isFilled_4 rfl rfl ?_
  refine gz_getI (pc := 5) dX2_isFilled_5 fl_RX2_19 rfl c_1 ?_
  refine gz_icmp_lt (tgt := 15) (pc := 8) dX2_isFilled_8 rfl (fun c_2 => ?_) (fun c_2 => ?_)
  · have hf := gz_gT hf c_2
    refine gz_iconst (v := (0 : Int32)) (pc := 15) dX2_isFilled_15 rfl ?_
    exact gz_irt (pc := 16) dX2_isFilled_16 rfl rfl hf
  · have hf := gz_gF hf c_2
    refine gz_iconst (v := (1 : Int32)) (pc := 11) dX2_isFilled_11 rfl ?_
    refine gz_goto (tgt := 16) (pc := 12) dX2_isFilled_12 rfl ?_
    exact gz_irt (pc := 16) dX2_isFilled_16 rfl rfl hf
def fX2_isFilled (a0 : Nat) (h : gz_H) : Option (Int32 × gz_H) := fX2_isFilled_0 a0 h
theorem sX2_isFilled {G : gz_G} {d : Nat} {a0 : Nat} {h : gz_H} {Q : Int32 → gz_H → Prop} (hf : gz_g (fX2_isFilled a0 h) Q) : gz_Cl G mX2_isFilled (d + 0) 0 0 [.ref a0] h (gz_qi Q) := gz_cl_of (lo := [.ref a0]) (by decide) rfl rfl (Nat.le_of_ble_eq_true rfl) (sX2_isFilled_0 a0 h hf)
theorem dX2_oldest_0 : decode cX2_oldest 0 = .ok (.aload_n 0, 1) := by decide +kernel
theorem dX2_oldest_1 : decode cX2_oldest 1 = .ok (.getfield 25, 3) := by decide +kernel
theorem dX2_oldest_4 : decode cX2_oldest 4 = .ok (.ifCond .le 12, 3) := by decide +kernel
theorem dX2_oldest_7 : decode cX2_oldest 7 = .ok (.aload_n 0, 1) := by decide +kernel
theorem dX2_oldest_8 : decode cX2_oldest 8 = .ok (.getfield 9, 3) := by decide +kernel
theorem dX2_oldest_11 : decode cX2_oldest 11 = .ok (.iconst 0, 1) := by decide +kernel
theorem dX2_oldest_12 : decode cX2_oldest 12 = .ok (.iaload, 1) := by decide +kernel
theorem dX2_oldest_13 : decode cX2_oldest 13 = .ok (.goto 5, 3) := by decide +kernel
theorem dX2_oldest_16 : decode cX2_oldest 16 = .ok (.bipush (-9), 2) := by decide +kernel
theorem dX2_oldest_18 : decode cX2_oldest 18 = .ok (.ireturn, 1) := by decide +kernel
def fX2_oldest_0  (a0 : Nat) (h : gz_H) : Option (Int32 × gz_H) :=
    gz_ck (h.1[a0]? = some (2, 6)) <|
    if (h.2.1 a0 1) ≤ 0 then (
     some ((-9 : Int32), h)
    ) else (
     gz_br (h.2.2.2 a0 0) fun r_3 =>
     gz_ck (gz_inb h r_3 10 (0 : Int32) = true) <|
     some (h.2.1 r_3 (0 : Int32).toNatClampNeg, h)
    )
set_option maxRecDepth 100000 in
set_option maxHeartbeats 1000000 in
theorem sX2_oldest_0 {G : gz_G} {d l0 s0 : Nat} {Q : Int32 → gz_H → Prop} (a0 : Nat) (h : gz_H) (hf : gz_g (fX2_oldest_0  a0 h) Q) : gz_Ok G mX2_oldest (d + 0, l0, s0, 0, 0) 0 [.ref a0] [] h (gz_qi Q) := by
  unfold fX2_oldest_0 at hf
  refine gz_aload_n (pc := 0) dX2_oldest_0 rfl rfl ?_
  refine gz_gk hf (fun c_1 hf => ?_)
  refine gz_getI (pc := 1) dX2_oldest_1 fl_RX2_25 rfl c_1 ?_
  refine gz_if_le (tgt := 16) (pc := 4) dX2_oldest_4 rfl (fun c_2 => ?_) (fun c_2 => ?_)
  · have hf := gz_gT hf c_2
    refine gz_bipush (v := (-9 : Int32)) (pc := 16) dX2_oldest_16 rfl ?_
    exact gz_irt (pc := 18) dX2_oldest_18 rfl rfl hf
  · have hf := gz_gF hf c_2
    refine gz_aload_n (pc := 7) dX2_oldest_7 rfl rfl ?_
    refine gz_gb hf (fun r_3 er_3 hf => ?_)
    refine gz_getR (pc := 8) dX2_oldest_8 fl_RX2_9 rfl c_1 er_3 ?_
    refine gz_iconst (v := (0 : Int32)) (pc := 11) dX2_oldest_11 rfl ?_
    refine gz_gk hf (fun c_4 hf => ?_)
    refine gz_iald (pc := 12) dX2_oldest_12 c_4 ?_
    refine gz_goto (tgt := 18) (pc := 13) dX2_oldest_13 rfl ?_
    exact gz_irt (pc := 18) dX2_oldest_18 rfl rfl hf
def fX2_oldest (a0 : Nat) (h : gz_H) : Option (Int32 × gz_H) := fX2_oldest_0 a0 h
theorem sX2_oldest {G : gz_G} {d : Nat} {a0 : Nat} {h : gz_H} {Q : Int32 → gz_H → Prop} (hf : gz_g (fX2_oldest a0 h) Q) : gz_Cl G mX2_oldest (d + 0) 0 0 [.ref a0] h (gz_qi Q) := gz_cl_of (lo := [.ref a0]) (by decide) rfl rfl (Nat.le_of_ble_eq_true rfl) (sX2_oldest_0 a0 h hf)
theorem dX2_take_0 : decode cX2_take 0 = .ok (.bipush (-9), 2) := by decide +kernel
theorem dX2_take_2 : decode cX2_take 2 = .ok (.istore_n 2, 1) := by decide +kernel
theorem dX2_take_3 : decode cX2_take 3 = .ok (.aload_n 0, 1) := by decide +kernel
theorem dX2_take_4 : decode cX2_take 4 = .ok (.iload_n 1, 1) := by decide +kernel
theorem dX2_take_5 : decode cX2_take 5 = .ok (.invokevirtual 42, 3) := by decide +kernel
theorem dX2_take_8 : decode cX2_take 8 = .ok (.istore_n 3, 1) := by decide +kernel
theorem dX2_take_9 : decode cX2_take 9 = .ok (.iload_n 3, 1) := by decide +kernel
theorem dX2_take_10 : decode cX2_take 10 = .ok (.bipush (-9), 2) := by decide +kernel
theorem dX2_take_12 : decode cX2_take 12 = .ok (.if_icmp .eq 11, 3) := by decide +kernel
theorem dX2_take_15 : decode cX2_take 15 = .ok (.aload_n 0, 1) := by decide +kernel
theorem dX2_take_16 : decode cX2_take 16 = .ok (.iload_n 3, 1) := by decide +kernel
theorem dX2_take_17 : decode cX2_take 17 = .ok (.invokevirtual 56, 3) := by decide +kernel
theorem dX2_take_20 : decode cX2_take 20 = .ok (.goto 20, 3) := by decide +kernel
theorem dX2_take_23 : decode cX2_take 23 = .ok (.aload_n 0, 1) := by decide +kernel
theorem dX2_take_24 : decode cX2_take 24 = .ok (.invokevirtual 60, 3) := by decide +kernel
theorem dX2_take_27 : decode cX2_take 27 = .ok (.ifCond .eq 13, 3) := by decide +kernel
theorem dX2_take_30 : decode cX2_take 30 = .ok (.aload_n 0, 1) := by decide +kernel
theorem dX2_take_31 : decode cX2_take 31 = .ok (.invokevirtual 53, 3) := by decide +kernel
theorem dX2_take_34 : decode cX2_take 34 = .ok (.istore_n 2, 1) := by decide +kernel
theorem dX2_take_35 : decode cX2_take 35 = .ok (.aload_n 0, 1) := by decide +kernel
theorem dX2_take_36 : decode cX2_take 36 = .ok (.iconst 0, 1) := by decide +kernel
theorem dX2_take_37 : decode cX2_take 37 = .ok (.invokevirtual 56, 3) := by decide +kernel
theorem dX2_take_40 : decode cX2_take 40 = .ok (.aload_n 0, 1) := by decide +kernel
theorem dX2_take_41 : decode cX2_take 41 = .ok (.getfield 25, 3) := by decide +kernel
theorem dX2_take_44 : decode cX2_take 44 = .ok (.bipush 8, 2) := by decide +kernel
theorem dX2_take_46 : decode cX2_take 46 = .ok (.if_icmp .ge 20, 3) := by decide +kernel
theorem dX2_take_49 : decode cX2_take 49 = .ok (.aload_n 0, 1) := by decide +kernel
theorem dX2_take_50 : decode cX2_take 50 = .ok (.getfield 9, 3) := by decide +kernel
theorem dX2_take_53 : decode cX2_take 53 = .ok (.aload_n 0, 1) := by decide +kernel
theorem dX2_take_54 : decode cX2_take 54 = .ok (.dup, 1) := by decide +kernel
theorem dX2_take_55 : decode cX2_take 55 = .ok (.getfield 25, 3) := by decide +kernel
theorem dX2_take_58 : decode cX2_take 58 = .ok (.dup_x1, 1) := by decide +kernel
theorem dX2_take_59 : decode cX2_take 59 = .ok (.iconst 1, 1) := by decide +kernel
theorem dX2_take_60 : decode cX2_take 60 = .ok (.iadd, 1) := by decide +kernel
theorem dX2_take_61 : decode cX2_take 61 = .ok (.putfield 25, 3) := by decide +kernel
theorem dX2_take_64 : decode cX2_take 64 = .ok (.iload_n 1, 1) := by decide +kernel
theorem dX2_take_65 : decode cX2_take 65 = .ok (.iastore, 1) := by decide +kernel
theorem dX2_take_66 : decode cX2_take 66 = .ok (.iload_n 2, 1) := by decide +kernel
theorem dX2_take_67 : decode cX2_take 67 = .ok (.ireturn, 1) := by decide +kernel
def fX2_take_40  (a0 : Nat) (x1 : Int32) (x2 : Int32) (h : gz_H) : Option (Int32 × gz_H) :=
    gz_ck (h.1[a0]? = some (2, 6)) <|
    if (8 : Int32) ≤ (h.2.1 a0 1) then (
     some (x2, h)
    ) else (
     gz_br (h.2.2.2 a0 0) fun r_3 =>
     gz_lt (uI h a0 1 ((h.2.1 a0 1) + (1 : Int32))) fun h_4 =>
     gz_ck (gz_inb h_4 r_3 10 (h.2.1 a0 1) = true) <|
     gz_lt (uI h_4 r_3 (h.2.1 a0 1).toNatClampNeg x1) fun h_6 =>
     some (x2, h_6)
    )
set_option maxRecDepth 100000 in
set_option maxHeartbeats 1000000 in
theorem sX2_take_40 {G : gz_G} {d l0 s0 : Nat} {Q : Int32 → gz_H → Prop} (a0 : Nat) (x1 : Int32) (x2 : Int32) (h : gz_H) (hf : gz_g (fX2_take_40  a0 x1 x2 h) Q) : gz_Ok G mX2_take (d + 1, l0, s0, 0, 0) 40 [.ref a0, .int x1, .int x2, .retAddr 0] [] h (gz_qi Q) := by
  unfold fX2_take_40 at hf
  refine gz_aload_n (pc := 40) dX2_take_40 rfl rfl ?_
  refine gz_gk hf (fun c_1 hf => ?_)
  refine gz_getI (pc := 41) dX2_take_41 fl_RX2_25 rfl c_1 ?_
  refine gz_bipush (v := (8 : Int32)) (pc := 44) dX2_take_44 rfl ?_
  refine gz_icmp_ge (tgt := 66) (pc := 46) dX2_take_46 rfl (fun c_2 => ?_) (fun c_2 => ?_)
  · have hf := gz_gT hf c_2
    refine gz_iload_n (pc := 66) dX2_take_66 rfl rfl ?_
    exact gz_irt (pc := 67) dX2_take_67 rfl rfl hf
  · have hf := gz_gF hf c_2
    refine gz_aload_n (pc := 49) dX2_take_49 rfl rfl ?_
    refine gz_gb hf (fun r_3 er_3 hf => ?_)
    refine gz_getR (pc := 50) dX2_take_50 fl_RX2_9 rfl c_1 er_3 ?_
    refine gz_aload_n (pc := 53) dX2_take_53 rfl rfl ?_
    refine gz_dup (pc := 54) dX2_take_54 rfl ?_
    refine gz_getI (pc := 55) dX2_take_55 fl_RX2_25 rfl c_1 ?_
    refine gz_dup_x1 (pc := 58) dX2_take_58 rfl rfl ?_
    refine gz_iconst (v := (1 : Int32)) (pc := 59) dX2_take_59 rfl ?_
    refine gz_iadd (pc := 60) dX2_take_60 ?_
    refine gz_putI (pc := 61) dX2_take_61 fw_X2_take_25 rfl rfl rfl c_1 ?_
    refine gz_nmH (fun h_4 eh_4 => ?_)
    have hf := gz_gl eh_4 hf
    refine gz_iload_n (pc := 64) dX2_take_64 rfl rfl ?_
    refine gz_gk hf (fun c_5 hf => ?_)
    refine gz_iast (pc := 65) dX2_take_65 c_5 ?_
    refine gz_nmH (fun h_6 eh_6 => ?_)
    have hf := gz_gl eh_6 hf
    refine gz_iload_n (pc := 66) dX2_take_66 rfl rfl ?_
    exact gz_irt (pc := 67) dX2_take_67 rfl rfl hf
def fX2_take_0  (a0 : Nat) (x1 : Int32) (h : gz_H) : Option (Int32 × gz_H) :=
    gz_ck (h.1[a0]? = some (2, 6)) <|
    gz_b2 (fX2_placeInOrder a0 x1 h) fun y_2 h_1 =>
    if y_2 = (-9 : Int32) then (
     gz_ck (h_1.1[a0]? = some (2, 6)) <|
     gz_b2 (fX2_isFilled a0 h_1) fun y_6 h_5 =>
     if y_6 = 0 then (
      fX2_take_40 a0 x1 (-9 : Int32) h_5
     ) else (
      gz_ck (h_5.1[a0]? = some (2, 6)) <|
      gz_b2 (fX2_oldest a0 h_5) fun y_10 h_9 =>
      gz_ck (h_9.1[a0]? = some (2, 6)) <|
      gz_b2 (fX2_removeAt a0 (0 : Int32) h_9) fun _ h_12 =>
      fX2_take_40 a0 x1 y_10 h_12
     )
    ) else (
     gz_ck (h_1.1[a0]? = some (2, 6)) <|
     gz_b2 (fX2_removeAt a0 y_2 h_1) fun _ h_15 =>
     fX2_take_40 a0 x1 (-9 : Int32) h_15
    )
set_option maxRecDepth 100000 in
set_option maxHeartbeats 1000000 in
theorem sX2_take_0 {G : gz_G} {d l0 s0 : Nat} {Q : Int32 → gz_H → Prop} (a0 : Nat) (x1 : Int32) (h : gz_H) (hf : gz_g (fX2_take_0  a0 x1 h) Q) : gz_Ok G mX2_take (d + 1, l0, s0, 0, 0) 0 [.ref a0, .int x1, .retAddr 0, .retAddr 0] [] h (gz_qi Q) := by
  unfold fX2_take_0 at hf
  refine gz_bipush (v := (-9 : Int32)) (pc := 0) dX2_take_0 rfl ?_
  refine gz_istore_n (lv := [.ref a0, .int x1, .int (-9 : Int32), .retAddr 0]) (pc := 2) dX2_take_2 rfl (by decide) rfl ?_
  refine gz_aload_n (pc := 3) dX2_take_3 rfl rfl ?_
  refine gz_iload_n (pc := 4) dX2_take_4 rfl rfl ?_
  refine gz_gk hf (fun c_3 hf => ?_)
  refine gz_cVI (av := [.int x1]) (st := []) (pc := 5) dX2_take_5 kl_RX2_42 rfl c_3 rfl rfl (Nat.le_of_ble_eq_true rfl) (by show d + 0 + 0 + 1 ≤ d + 1; omega) (sX2_placeInOrder (d := d + 0) (gz_gc hf)) (fun y_2 h_1 hf => ?_)
  refine gz_istore_n (lv := [.ref a0, .int x1, .int (-9 : Int32), .int y_2]) (pc := 8) dX2_take_8 rfl (by decide) rfl ?_
  refine gz_iload_n (pc := 9) dX2_take_9 rfl rfl ?_
  refine gz_bipush (v := (-9 : Int32)) (pc := 10) dX2_take_10 rfl ?_
  refine gz_icmp_eq (tgt := 23) (pc := 12) dX2_take_12 rfl (fun c_4 => ?_) (fun c_4 => ?_)
  · have hf := gz_gT hf c_4
    refine gz_aload_n (pc := 23) dX2_take_23 rfl rfl ?_
    refine gz_gk hf (fun c_7 hf => ?_)
    refine gz_cVI (av := []) (st := []) (pc := 24) dX2_take_24 kl_RX2_60 rfl c_7 rfl rfl (Nat.le_of_ble_eq_true rfl) (by show d + 0 + 0 + 1 ≤ d + 1; omega) (sX2_isFilled (d := d + 0) (gz_gc hf)) (fun y_6 h_5 hf => ?_)
    refine gz_if_eq (tgt := 40) (pc := 27) dX2_take_27 rfl (fun c_8 => ?_) (fun c_8 => ?_)
    · have hf := gz_gT hf c_8
      refine gz_fg (lv := [.ref a0, .int x1, .int (-9 : Int32), .retAddr 0]) ⟨Or.inr rfl, ⟨Or.inr rfl, ⟨Or.inr rfl, ⟨Or.inl rfl, trivial⟩⟩⟩⟩ ?_
      exact sX2_take_40 a0 x1 (-9 : Int32) h_5 hf
    · have hf := gz_gF hf c_8
      refine gz_aload_n (pc := 30) dX2_take_30 rfl rfl ?_
      refine gz_gk hf (fun c_11 hf => ?_)
      refine gz_cVI (av := []) (st := []) (pc := 31) dX2_take_31 kl_RX2_53 rfl c_11 rfl rfl (Nat.le_of_ble_eq_true rfl) (by show d + 0 + 0 + 1 ≤ d + 1; omega) (sX2_oldest (d := d + 0) (gz_gc hf)) (fun y_10 h_9 hf => ?_)
      refine gz_istore_n (lv := [.ref a0, .int x1, .int y_10, .int y_2]) (pc := 34) dX2_take_34 rfl (by decide) rfl ?_
      refine gz_aload_n (pc := 35) dX2_take_35 rfl rfl ?_
      refine gz_iconst (v := (0 : Int32)) (pc := 36) dX2_take_36 rfl ?_
      refine gz_gk hf (fun c_14 hf => ?_)
      refine gz_cVV (av := [.int (0 : Int32)]) (st := []) (pc := 37) dX2_take_37 kl_RX2_56 rfl c_14 rfl rfl (Nat.le_of_ble_eq_true rfl) (by show d + 0 + 0 + 1 ≤ d + 1; omega) (sX2_removeAt (d := d + 0) (gz_gc hf)) (fun _ h_12 hf => ?_)
      refine gz_fg (lv := [.ref a0, .int x1, .int y_10, .retAddr 0]) ⟨Or.inr rfl, ⟨Or.inr rfl, ⟨Or.inr rfl, ⟨Or.inl rfl, trivial⟩⟩⟩⟩ ?_
      exact sX2_take_40 a0 x1 y_10 h_12 hf
  · have hf := gz_gF hf c_4
    refine gz_aload_n (pc := 15) dX2_take_15 rfl rfl ?_
    refine gz_iload_n (pc := 16) dX2_take_16 rfl rfl ?_
    refine gz_gk hf (fun c_17 hf => ?_)
    refine gz_cVV (av := [.int y_2]) (st := []) (pc := 17) dX2_take_17 kl_RX2_56 rfl c_17 rfl rfl (Nat.le_of_ble_eq_true rfl) (by show d + 0 + 0 + 1 ≤ d + 1; omega) (sX2_removeAt (d := d + 0) (gz_gc hf)) (fun _ h_15 hf => ?_)
    refine gz_goto (tgt := 40) (pc := 20) dX2_take_20 rfl ?_
    refine gz_fg (lv := [.ref a0, .int x1, .int (-9 : Int32), .retAddr 0]) ⟨Or.inr rfl, ⟨Or.inr rfl, ⟨Or.inr rfl, ⟨Or.inl rfl, trivial⟩⟩⟩⟩ ?_
    exact sX2_take_40 a0 x1 (-9 : Int32) h_15 hf
def fX2_take (a0 : Nat) (x1 : Int32) (h : gz_H) : Option (Int32 × gz_H) := fX2_take_0 a0 x1 h
theorem sX2_take {G : gz_G} {d : Nat} {a0 : Nat} {x1 : Int32} {h : gz_H} {Q : Int32 → gz_H → Prop} (hf : gz_g (fX2_take a0 x1 h) Q) : gz_Cl G mX2_take (d + 1) 0 0 [.ref a0, .int x1] h (gz_qi Q) := gz_cl_of (lo := [.ref a0, .int x1, .retAddr 0, .retAddr 0]) (by decide) rfl rfl (Nat.le_of_ble_eq_true rfl) (sX2_take_0 a0 x1 h hf)
theorem dX2_set_0 : decode cX2_set 0 = .ok (.iconst 0, 1) := by decide +kernel
theorem dX2_set_1 : decode cX2_set 1 = .ok (.istore_n 1, 1) := by decide +kernel
theorem dX2_set_2 : decode cX2_set 2 = .ok (.iconst 0, 1) := by decide +kernel
theorem dX2_set_3 : decode cX2_set 3 = .ok (.istore_n 2, 1) := by decide +kernel
theorem dX2_set_4 : decode cX2_set 4 = .ok (.iload_n 2, 1) := by decide +kernel
theorem dX2_set_5 : decode cX2_set 5 = .ok (.aload_n 0, 1) := by decide +kernel
theorem dX2_set_6 : decode cX2_set 6 = .ok (.getfield 25, 3) := by decide +kernel
theorem dX2_set_9 : decode cX2_set 9 = .ok (.if_icmp .ge 20, 3) := by decide +kernel
theorem dX2_set_12 : decode cX2_set 12 = .ok (.iload_n 1, 1) := by decide +kernel
theorem dX2_set_13 : decode cX2_set 13 = .ok (.iconst 1, 1) := by decide +kernel
theorem dX2_set_14 : decode cX2_set 14 = .ok (.aload_n 0, 1) := by decide +kernel
theorem dX2_set_15 : decode cX2_set 15 = .ok (.getfield 9, 3) := by decide +kernel
theorem dX2_set_18 : decode cX2_set 18 = .ok (.iload_n 2, 1) := by decide +kernel
theorem dX2_set_19 : decode cX2_set 19 = .ok (.iaload, 1) := by decide +kernel
theorem dX2_set_20 : decode cX2_set 20 = .ok (.ishl, 1) := by decide +kernel
theorem dX2_set_21 : decode cX2_set 21 = .ok (.ior, 1) := by decide +kernel
theorem dX2_set_22 : decode cX2_set 22 = .ok (.istore_n 1, 1) := by decide +kernel
theorem dX2_set_23 : decode cX2_set 23 = .ok (.iinc 2 1, 3) := by decide +kernel
theorem dX2_set_26 : decode cX2_set 26 = .ok (.goto (-22), 3) := by decide +kernel
theorem dX2_set_29 : decode cX2_set 29 = .ok (.iload_n 1, 1) := by decide +kernel
theorem dX2_set_30 : decode cX2_set 30 = .ok (.ireturn, 1) := by decide +kernel
def fX2_set_4  : Nat → Nat → Int32 → Int32 → gz_H → Option (Int32 × gz_H)
  | 0, _, _, _, _ => none
  | n + 1, a0, x1, x2, h =>
    gz_ck (h.1[a0]? = some (2, 6)) <|
    if (h.2.1 a0 1) ≤ x2 then (
     some (x1, h)
    ) else (
     gz_br (h.2.2.2 a0 0) fun r_3 =>
     gz_ck (gz_inb h r_3 10 x2 = true) <|
     gz_lt (x1 ||| ((1 : Int32) <<< ((h.2.1 r_3 x2.toNatClampNeg) &&& 31))) fun (y_5 : Int32) =>
     fX2_set_4 n a0 y_5 (x2 + 1) h
    )
set_option maxRecDepth 100000 in
set_option maxHeartbeats 1000000 in
theorem sX2_set_4 {G : gz_G} {d l0 s0 : Nat} {Q : Int32 → gz_H → Prop} : ∀ (n : Nat) (a0 : Nat) (x1 : Int32) (x2 : Int32) (h : gz_H), gz_g (fX2_set_4  n a0 x1 x2 h) Q → gz_Ok G mX2_set (d + 0, l0, s0, 0, 0) 4 [.ref a0, .int x1, .int x2] [] h (gz_qi Q) := by
  intro n
  induction n with
  | zero => intro a0 x1 x2 h hf; exact False.elim hf
  | succ n ih =>
    intro a0 x1 x2 h hf
    rw [fX2_set_4] at hf
    refine gz_iload_n (pc := 4) dX2_set_4 rfl rfl ?_
    refine gz_aload_n (pc := 5) dX2_set_5 rfl rfl ?_
    refine gz_gk hf (fun c_1 hf => ?_)
    refine gz_getI (pc := 6) dX2_set_6 fl_RX2_25 rfl c_1 ?_
    refine gz_icmp_ge (tgt := 29) (pc := 9) dX2_set_9 rfl (fun c_2 => ?_) (fun c_2 => ?_)
    · have hf := gz_gT hf c_2
      refine gz_iload_n (pc := 29) dX2_set_29 rfl rfl ?_
      exact gz_irt (pc := 30) dX2_set_30 rfl rfl hf
    · have hf := gz_gF hf c_2
      refine gz_iload_n (pc := 12) dX2_set_12 rfl rfl ?_
      refine gz_iconst (v := (1 : Int32)) (pc := 13) dX2_set_13 rfl ?_
      refine gz_aload_n (pc := 14) dX2_set_14 rfl rfl ?_
      refine gz_gb hf (fun r_3 er_3 hf => ?_)
      refine gz_getR (pc := 15) dX2_set_15 fl_RX2_9 rfl c_1 er_3 ?_
      refine gz_iload_n (pc := 18) dX2_set_18 rfl rfl ?_
      refine gz_gk hf (fun c_4 hf => ?_)
      refine gz_iald (pc := 19) dX2_set_19 c_4 ?_
      refine gz_ishl (pc := 20) dX2_set_20 ?_
      refine gz_ior (pc := 21) dX2_set_21 ?_
      refine gz_nmI (fun y_5 ey_5 => ?_)
      have hf := gz_gl ey_5 hf
      refine gz_istore_n (lv := [.ref a0, .int y_5, .int x2]) (pc := 22) dX2_set_22 rfl (by decide) rfl ?_
      refine gz_iinc (v := x2 + 1) (lv := [.ref a0, .int y_5, .int (x2 + 1)]) (pc := 23) dX2_set_23 rfl rfl (by decide) rfl ?_
      refine gz_goto (tgt := 4) (pc := 26) dX2_set_26 rfl ?_
      exact ih a0 y_5 (x2 + 1) h hf
def fX2_set_0  (a0 : Nat) (h : gz_H) : Option (Int32 × gz_H) :=
    fX2_set_4 gz_fu a0 (0 : Int32) (0 : Int32) h
set_option maxRecDepth 100000 in
set_option maxHeartbeats 1000000 in
theorem sX2_set_0 {G : gz_G} {d l0 s0 : Nat} {Q : Int32 → gz_H → Prop} (a0 : Nat) (h : gz_H) (hf : gz_g (fX2_set_0  a0 h) Q) : gz_Ok G mX2_set (d + 0, l0, s0, 0, 0) 0 [.ref a0, .retAddr 0, .retAddr 0] [] h (gz_qi Q) := by
  unfold fX2_set_0 at hf
  refine gz_iconst (v := (0 : Int32)) (pc := 0) dX2_set_0 rfl ?_
  refine gz_istore_n (lv := [.ref a0, .int (0 : Int32), .retAddr 0]) (pc := 1) dX2_set_1 rfl (by decide) rfl ?_
  refine gz_iconst (v := (0 : Int32)) (pc := 2) dX2_set_2 rfl ?_
  refine gz_istore_n (lv := [.ref a0, .int (0 : Int32), .int (0 : Int32)]) (pc := 3) dX2_set_3 rfl (by decide) rfl ?_
  exact sX2_set_4 gz_fu a0 (0 : Int32) (0 : Int32) h hf
def fX2_set (a0 : Nat) (h : gz_H) : Option (Int32 × gz_H) := fX2_set_0 a0 h
theorem sX2_set {G : gz_G} {d : Nat} {a0 : Nat} {h : gz_H} {Q : Int32 → gz_H → Prop} (hf : gz_g (fX2_set a0 h) Q) : gz_Cl G mX2_set (d + 0) 0 0 [.ref a0] h (gz_qi Q) := gz_cl_of (lo := [.ref a0, .retAddr 0, .retAddr 0]) (by decide) rfl rfl (Nat.le_of_ble_eq_true rfl) (sX2_set_0 a0 h hf)
theorem dX2_room_0 : decode cX2_room 0 = .ok (.aload_n 0, 1) := by decide +kernel
theorem dX2_room_1 : decode cX2_room 1 = .ok (.getfield 28, 3) := by decide +kernel
theorem dX2_room_4 : decode cX2_room 4 = .ok (.ifCond .eq 7, 3) := by decide +kernel
theorem dX2_room_7 : decode cX2_room 7 = .ok (.iconst 0, 1) := by decide +kernel
theorem dX2_room_8 : decode cX2_room 8 = .ok (.goto 12, 3) := by decide +kernel
theorem dX2_room_11 : decode cX2_room 11 = .ok (.aload_n 0, 1) := by decide +kernel
theorem dX2_room_12 : decode cX2_room 12 = .ok (.getfield 19, 3) := by decide +kernel
theorem dX2_room_15 : decode cX2_room 15 = .ok (.aload_n 0, 1) := by decide +kernel
theorem dX2_room_16 : decode cX2_room 16 = .ok (.getfield 25, 3) := by decide +kernel
theorem dX2_room_19 : decode cX2_room 19 = .ok (.isub, 1) := by decide +kernel
theorem dX2_room_20 : decode cX2_room 20 = .ok (.ireturn, 1) := by decide +kernel
def fX2_room_0  (a0 : Nat) (h : gz_H) : Option (Int32 × gz_H) :=
    gz_ck (h.1[a0]? = some (2, 6)) <|
    if (h.2.1 a0 5) = 0 then (
     some ((h.2.1 a0 3) - (h.2.1 a0 1), h)
    ) else (
     some ((0 : Int32), h)
    )
set_option maxRecDepth 100000 in
set_option maxHeartbeats 1000000 in
theorem sX2_room_0 {G : gz_G} {d l0 s0 : Nat} {Q : Int32 → gz_H → Prop} (a0 : Nat) (h : gz_H) (hf : gz_g (fX2_room_0  a0 h) Q) : gz_Ok G mX2_room (d + 0, l0, s0, 0, 0) 0 [.ref a0] [] h (gz_qi Q) := by
  unfold fX2_room_0 at hf
  refine gz_aload_n (pc := 0) dX2_room_0 rfl rfl ?_
  refine gz_gk hf (fun c_1 hf => ?_)
  refine gz_getI (pc := 1) dX2_room_1 fl_RX2_28 rfl c_1 ?_
  refine gz_if_eq (tgt := 11) (pc := 4) dX2_room_4 rfl (fun c_2 => ?_) (fun c_2 => ?_)
  · have hf := gz_gT hf c_2
    refine gz_aload_n (pc := 11) dX2_room_11 rfl rfl ?_
    refine gz_getI (pc := 12) dX2_room_12 fl_RX2_19 rfl c_1 ?_
    refine gz_aload_n (pc := 15) dX2_room_15 rfl rfl ?_
    refine gz_getI (pc := 16) dX2_room_16 fl_RX2_25 rfl c_1 ?_
    refine gz_isub (pc := 19) dX2_room_19 ?_
    exact gz_irt (pc := 20) dX2_room_20 rfl rfl hf
  · have hf := gz_gF hf c_2
    refine gz_iconst (v := (0 : Int32)) (pc := 7) dX2_room_7 rfl ?_
    refine gz_goto (tgt := 20) (pc := 8) dX2_room_8 rfl ?_
    exact gz_irt (pc := 20) dX2_room_20 rfl rfl hf
def fX2_room (a0 : Nat) (h : gz_H) : Option (Int32 × gz_H) := fX2_room_0 a0 h
theorem sX2_room {G : gz_G} {d : Nat} {a0 : Nat} {h : gz_H} {Q : Int32 → gz_H → Prop} (hf : gz_g (fX2_room a0 h) Q) : gz_Cl G mX2_room (d + 0) 0 0 [.ref a0] h (gz_qi Q) := gz_cl_of (lo := [.ref a0]) (by decide) rfl rfl (Nat.le_of_ble_eq_true rfl) (sX2_room_0 a0 h hf)
theorem dX4_greatestDivisor_0 : decode cX4_greatestDivisor 0 = .ok (.lload_n 0, 1) := by decide +kernel
theorem dX4_greatestDivisor_1 : decode cX4_greatestDivisor 1 = .ok (.lstore 4, 2) := by decide +kernel
theorem dX4_greatestDivisor_3 : decode cX4_greatestDivisor 3 = .ok (.lload_n 2, 1) := by decide +kernel
theorem dX4_greatestDivisor_4 : decode cX4_greatestDivisor 4 = .ok (.lstore 6, 2) := by decide +kernel
theorem dX4_greatestDivisor_6 : decode cX4_greatestDivisor 6 = .ok (.iconst 0, 1) := by decide +kernel
theorem dX4_greatestDivisor_7 : decode cX4_greatestDivisor 7 = .ok (.istore 8, 2) := by decide +kernel
theorem dX4_greatestDivisor_9 : decode cX4_greatestDivisor 9 = .ok (.iload 8, 2) := by decide +kernel
theorem dX4_greatestDivisor_11 : decode cX4_greatestDivisor 11 = .ok (.sipush 200, 3) := by decide +kernel
theorem dX4_greatestDivisor_14 : decode cX4_greatestDivisor 14 = .ok (.if_icmp .ge 31, 3) := by decide +kernel
theorem dX4_greatestDivisor_17 : decode cX4_greatestDivisor 17 = .ok (.lload 6, 2) := by decide +kernel
theorem dX4_greatestDivisor_19 : decode cX4_greatestDivisor 19 = .ok (.lconst 0, 1) := by decide +kernel
theorem dX4_greatestDivisor_20 : decode cX4_greatestDivisor 20 = .ok (.lcmp, 1) := by decide +kernel
theorem dX4_greatestDivisor_21 : decode cX4_greatestDivisor 21 = .ok (.ifCond .eq 24, 3) := by decide +kernel
theorem dX4_greatestDivisor_24 : decode cX4_greatestDivisor 24 = .ok (.lload 4, 2) := by decide +kernel
theorem dX4_greatestDivisor_26 : decode cX4_greatestDivisor 26 = .ok (.lload 6, 2) := by decide +kernel
theorem dX4_greatestDivisor_28 : decode cX4_greatestDivisor 28 = .ok (.lrem, 1) := by decide +kernel
theorem dX4_greatestDivisor_29 : decode cX4_greatestDivisor 29 = .ok (.lstore 9, 2) := by decide +kernel
theorem dX4_greatestDivisor_31 : decode cX4_greatestDivisor 31 = .ok (.lload 6, 2) := by decide +kernel
theorem dX4_greatestDivisor_33 : decode cX4_greatestDivisor 33 = .ok (.lstore 4, 2) := by decide +kernel
theorem dX4_greatestDivisor_35 : decode cX4_greatestDivisor 35 = .ok (.lload 9, 2) := by decide +kernel
theorem dX4_greatestDivisor_37 : decode cX4_greatestDivisor 37 = .ok (.lstore 6, 2) := by decide +kernel
theorem dX4_greatestDivisor_39 : decode cX4_greatestDivisor 39 = .ok (.iinc 8 1, 3) := by decide +kernel
theorem dX4_greatestDivisor_42 : decode cX4_greatestDivisor 42 = .ok (.goto (-33), 3) := by decide +kernel
theorem dX4_greatestDivisor_45 : decode cX4_greatestDivisor 45 = .ok (.lload 4, 2) := by decide +kernel
theorem dX4_greatestDivisor_47 : decode cX4_greatestDivisor 47 = .ok (.lreturn, 1) := by decide +kernel
def fX4_greatestDivisor_9  : Nat → Int64 → Int64 → Int32 → gz_H → Option (Int64 × gz_H)
  | 0, _, _, _, _ => none
  | n + 1, x4, x6, x8, h =>
    if (200 : Int32) ≤ x8 then (
     some (x4, h)
    ) else (
     if (lg_cmp x6 (0 : Int64)) = 0 then (
      some (x4, h)
     ) else (
      gz_ck (¬ x6 = 0) <|
      fX4_greatestDivisor_9 n x6 (x4 - x4 / x6 * x6) (x8 + 1) h
     )
    )
set_option maxRecDepth 100000 in
set_option maxHeartbeats 1000000 in
theorem sX4_greatestDivisor_9 {G : gz_G} {d l0 s0 : Nat} {Q : Int64 → gz_H → Prop} : ∀ (n : Nat) (x4 : Int64) (x6 : Int64) (x8 : Int32) (h : gz_H), gz_g (fX4_greatestDivisor_9  n x4 x6 x8 h) Q → gz_Ok G mX4_greatestDivisor (d + 0, l0, s0, 0, 0) 9 [.retAddr 0, .retAddr 0, .retAddr 0, .retAddr 0, .long x4, .retAddr 0, .long x6, .retAddr 0, .int x8, .retAddr 0, .retAddr 0] [] h (gz_ql Q) := by
  intro n
  induction n with
  | zero => intro x4 x6 x8 h hf; exact False.elim hf
  | succ n ih =>
    intro x4 x6 x8 h hf
    rw [fX4_greatestDivisor_9] at hf
    refine gz_iload (pc := 9) dX4_greatestDivisor_9 rfl ?_
    refine gz_sipush (v := (200 : Int32)) (pc := 11) dX4_greatestDivisor_11 rfl ?_
    refine gz_icmp_ge (tgt := 45) (pc := 14) dX4_greatestDivisor_14 rfl (fun c_1 => ?_) (fun c_1 => ?_)
    · have hf := gz_gT hf c_1
      refine gz_lload (pc := 45) dX4_greatestDivisor_45 rfl ?_
      exact gz_lrt (pc := 47) dX4_greatestDivisor_47 rfl hf
    · have hf := gz_gF hf c_1
      refine gz_lload (pc := 17) dX4_greatestDivisor_17 rfl ?_
      refine gz_lconst (v := (0 : Int64)) (pc := 19) dX4_greatestDivisor_19 rfl ?_
      refine gz_lcmp (pc := 20) dX4_greatestDivisor_20 ?_
      refine gz_if_eq (tgt := 45) (pc := 21) dX4_greatestDivisor_21 rfl (fun c_2 => ?_) (fun c_2 => ?_)
      · have hf := gz_gT hf c_2
        refine gz_lload (pc := 45) dX4_greatestDivisor_45 rfl ?_
        exact gz_lrt (pc := 47) dX4_greatestDivisor_47 rfl hf
      · have hf := gz_gF hf c_2
        refine gz_lload (pc := 24) dX4_greatestDivisor_24 rfl ?_
        refine gz_lload (pc := 26) dX4_greatestDivisor_26 rfl ?_
        refine gz_gk hf (fun c_3 hf => ?_)
        refine gz_lrem (pc := 28) dX4_greatestDivisor_28 c_3 ?_
        refine gz_lstore (lv := [.retAddr 0, .retAddr 0, .retAddr 0, .retAddr 0, .long x4, .retAddr 0, .long x6, .retAddr 0, .int x8, .long (x4 - x4 / x6 * x6), .retAddr 0]) (pc := 29) dX4_greatestDivisor_29 (by decide) rfl ?_
        refine gz_lload (pc := 31) dX4_greatestDivisor_31 rfl ?_
        refine gz_lstore (lv := [.retAddr 0, .retAddr 0, .retAddr 0, .retAddr 0, .long x6, .retAddr 0, .long x6, .retAddr 0, .int x8, .long (x4 - x4 / x6 * x6), .retAddr 0]) (pc := 33) dX4_greatestDivisor_33 (by decide) rfl ?_
        refine gz_lload (pc := 35) dX4_greatestDivisor_35 rfl ?_
        refine gz_lstore (lv := [.retAddr 0, .retAddr 0, .retAddr 0, .retAddr 0, .long x6, .retAddr 0, .long (x4 - x4 / x6 * x6), .retAddr 0, .int x8, .long (x4 - x4 / x6 * x6), .retAddr 0]) (pc := 37) dX4_greatestDivisor_37 (by decide) rfl ?_
        refine gz_iinc (v := x8 + 1) (lv := [.retAddr 0, .retAddr 0, .retAddr 0, .retAddr 0, .long x6, .retAddr 0, .long (x4 - x4 / x6 * x6), .retAddr 0, .int (x8 + 1), .long (x4 - x4 / x6 * x6), .retAddr 0]) (pc := 39) dX4_greatestDivisor_39 rfl rfl (by decide) rfl ?_
        refine gz_goto (tgt := 9) (pc := 42) dX4_greatestDivisor_42 rfl ?_
        refine gz_fg (lv := [.retAddr 0, .retAddr 0, .retAddr 0, .retAddr 0, .long x6, .retAddr 0, .long (x4 - x4 / x6 * x6), .retAddr 0, .int (x8 + 1), .retAddr 0, .retAddr 0]) ⟨Or.inl rfl, ⟨Or.inl rfl, ⟨Or.inl rfl, ⟨Or.inl rfl, ⟨Or.inr rfl, ⟨Or.inl rfl, ⟨Or.inr rfl, ⟨Or.inl rfl, ⟨Or.inr rfl, ⟨Or.inl rfl, ⟨Or.inl rfl, trivial⟩⟩⟩⟩⟩⟩⟩⟩⟩⟩⟩ ?_
        exact ih x6 (x4 - x4 / x6 * x6) (x8 + 1) h hf
def fX4_greatestDivisor_0  (x0 : Int64) (x2 : Int64) (h : gz_H) : Option (Int64 × gz_H) :=
    fX4_greatestDivisor_9 gz_fu x0 x2 (0 : Int32) h
set_option maxRecDepth 100000 in
set_option maxHeartbeats 1000000 in
theorem sX4_greatestDivisor_0 {G : gz_G} {d l0 s0 : Nat} {Q : Int64 → gz_H → Prop} (x0 : Int64) (x2 : Int64) (h : gz_H) (hf : gz_g (fX4_greatestDivisor_0  x0 x2 h) Q) : gz_Ok G mX4_greatestDivisor (d + 0, l0, s0, 0, 0) 0 [.long x0, .retAddr 0, .long x2, .retAddr 0, .retAddr 0, .retAddr 0, .retAddr 0, .retAddr 0, .retAddr 0, .retAddr 0, .retAddr 0] [] h (gz_ql Q) := by
  unfold fX4_greatestDivisor_0 at hf
  refine gz_lload_n (pc := 0) dX4_greatestDivisor_0 rfl rfl ?_
  refine gz_lstore (lv := [.long x0, .retAddr 0, .long x2, .retAddr 0, .long x0, .retAddr 0, .retAddr 0, .retAddr 0, .retAddr 0, .retAddr 0, .retAddr 0]) (pc := 1) dX4_greatestDivisor_1 (by decide) rfl ?_
  refine gz_lload_n (pc := 3) dX4_greatestDivisor_3 rfl rfl ?_
  refine gz_lstore (lv := [.long x0, .retAddr 0, .long x2, .retAddr 0, .long x0, .retAddr 0, .long x2, .retAddr 0, .retAddr 0, .retAddr 0, .retAddr 0]) (pc := 4) dX4_greatestDivisor_4 (by decide) rfl ?_
  refine gz_iconst (v := (0 : Int32)) (pc := 6) dX4_greatestDivisor_6 rfl ?_
  refine gz_istore (lv := [.long x0, .retAddr 0, .long x2, .retAddr 0, .long x0, .retAddr 0, .long x2, .retAddr 0, .int (0 : Int32), .retAddr 0, .retAddr 0]) (pc := 7) dX4_greatestDivisor_7 (by decide) rfl ?_
  refine gz_fg (lv := [.retAddr 0, .retAddr 0, .retAddr 0, .retAddr 0, .long x0, .retAddr 0, .long x2, .retAddr 0, .int (0 : Int32), .retAddr 0, .retAddr 0]) ⟨Or.inl rfl, ⟨Or.inl rfl, ⟨Or.inl rfl, ⟨Or.inl rfl, ⟨Or.inr rfl, ⟨Or.inl rfl, ⟨Or.inr rfl, ⟨Or.inl rfl, ⟨Or.inr rfl, ⟨Or.inl rfl, ⟨Or.inl rfl, trivial⟩⟩⟩⟩⟩⟩⟩⟩⟩⟩⟩ ?_
  exact sX4_greatestDivisor_9 gz_fu x0 x2 (0 : Int32) h hf
def fX4_greatestDivisor (x0 : Int64) (x2 : Int64) (h : gz_H) : Option (Int64 × gz_H) := fX4_greatestDivisor_0 x0 x2 h
theorem sX4_greatestDivisor {G : gz_G} {d : Nat} {x0 : Int64} {x2 : Int64} {h : gz_H} {Q : Int64 → gz_H → Prop} (hf : gz_g (fX4_greatestDivisor x0 x2 h) Q) : gz_Cl G mX4_greatestDivisor (d + 0) 0 0 [.long x0, .long x2] h (gz_ql Q) := gz_cl_of (lo := [.long x0, .retAddr 0, .long x2, .retAddr 0, .retAddr 0, .retAddr 0, .retAddr 0, .retAddr 0, .retAddr 0, .retAddr 0, .retAddr 0]) (by decide) rfl rfl (Nat.le_of_ble_eq_true rfl) (sX4_greatestDivisor_0 x0 x2 h hf)
