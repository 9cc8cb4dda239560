theorem dX8_safe_0 : decode cX8_safe 0 = .ok (.aload_n 0, 1) := by decide +kernel
theorem dX8_safe_1 : decode cX8_safe 1 = .ok (.getfield 70, 3) := by decide +kernel
theorem dX8_safe_4 : decode cX8_safe 4 = .ok (.invokevirtual 183, 3) := by decide +kernel
theorem dX8_safe_7 : decode cX8_safe 7 = .ok (.ifCond .ne 6, 3) := by decide +kernel
theorem dX8_safe_10 : decode cX8_safe 10 = .ok (.bipush (-4), 2) := by decide +kernel
theorem dX8_safe_12 : decode cX8_safe 12 = .ok (.ireturn, 1) := by decide +kernel
theorem dX8_safe_13 : decode cX8_safe 13 = .ok (.iconst 0, 1) := by decide +kernel
theorem dX8_safe_14 : decode cX8_safe 14 = .ok (.istore_n 1, 1) := by decide +kernel
theorem dX8_safe_15 : decode cX8_safe 15 = .ok (.iconst 0, 1) := by decide +kernel
theorem dX8_safe_16 : decode cX8_safe 16 = .ok (.istore_n 2, 1) := by decide +kernel
theorem dX8_safe_17 : decode cX8_safe 17 = .ok (.iload_n 2, 1) := by decide +kernel
theorem dX8_safe_18 : decode cX8_safe 18 = .ok (.aload_n 0, 1) := by decide +kernel
theorem dX8_safe_19 : decode cX8_safe 19 = .ok (.getfield 70, 3) := by decide +kernel
theorem dX8_safe_22 : decode cX8_safe 22 = .ok (.getfield 245, 3) := by decide +kernel
theorem dX8_safe_25 : decode cX8_safe 25 = .ok (.if_icmp .ge 60, 3) := by decide +kernel
theorem dX8_safe_28 : decode cX8_safe 28 = .ok (.aload_n 0, 1) := by decide +kernel
theorem dX8_safe_29 : decode cX8_safe 29 = .ok (.getfield 70, 3) := by decide +kernel
theorem dX8_safe_32 : decode cX8_safe 32 = .ok (.iload_n 2, 1) := by decide +kernel
theorem dX8_safe_33 : decode cX8_safe 33 = .ok (.invokevirtual 207, 3) := by decide +kernel
theorem dX8_safe_36 : decode cX8_safe 36 = .ok (.istore_n 3, 1) := by decide +kernel
theorem dX8_safe_37 : decode cX8_safe 37 = .ok (.aload_n 0, 1) := by decide +kernel
theorem dX8_safe_38 : decode cX8_safe 38 = .ok (.getfield 93, 3) := by decide +kernel
theorem dX8_safe_41 : decode cX8_safe 41 = .ok (.iload_n 2, 1) := by decide +kernel
theorem dX8_safe_42 : decode cX8_safe 42 = .ok (.iconst 0, 1) := by decide +kernel
theorem dX8_safe_43 : decode cX8_safe 43 = .ok (.iconst 2, 1) := by decide +kernel
theorem dX8_safe_44 : decode cX8_safe 44 = .ok (.iload_n 3, 1) := by decide +kernel
theorem dX8_safe_45 : decode cX8_safe 45 = .ok (.invokestatic 226, 3) := by decide +kernel
theorem dX8_safe_48 : decode cX8_safe 48 = .ok (.isub, 1) := by decide +kernel
theorem dX8_safe_49 : decode cX8_safe 49 = .ok (.invokestatic 248, 3) := by decide +kernel
theorem dX8_safe_52 : decode cX8_safe 52 = .ok (.iastore, 1) := by decide +kernel
theorem dX8_safe_53 : decode cX8_safe 53 = .ok (.aload_n 0, 1) := by decide +kernel
theorem dX8_safe_54 : decode cX8_safe 54 = .ok (.getfield 96, 3) := by decide +kernel
theorem dX8_safe_57 : decode cX8_safe 57 = .ok (.iload_n 2, 1) := by decide +kernel
theorem dX8_safe_58 : decode cX8_safe 58 = .ok (.aload_n 0, 1) := by decide +kernel
theorem dX8_safe_59 : decode cX8_safe 59 = .ok (.getfield 70, 3) := by decide +kernel
theorem dX8_safe_62 : decode cX8_safe 62 = .ok (.invokevirtual 253, 3) := by decide +kernel
theorem dX8_safe_65 : decode cX8_safe 65 = .ok (.iload_n 3, 1) := by decide +kernel
theorem dX8_safe_66 : decode cX8_safe 66 = .ok (.iconst (-1), 1) := by decide +kernel
theorem dX8_safe_67 : decode cX8_safe 67 = .ok (.ixor, 1) := by decide +kernel
theorem dX8_safe_68 : decode cX8_safe 68 = .ok (.iand, 1) := by decide +kernel
theorem dX8_safe_69 : decode cX8_safe 69 = .ok (.iastore, 1) := by decide +kernel
theorem dX8_safe_70 : decode cX8_safe 70 = .ok (.iload_n 1, 1) := by decide +kernel
theorem dX8_safe_71 : decode cX8_safe 71 = .ok (.aload_n 0, 1) := by decide +kernel
theorem dX8_safe_72 : decode cX8_safe 72 = .ok (.getfield 93, 3) := by decide +kernel
theorem dX8_safe_75 : decode cX8_safe 75 = .ok (.iload_n 2, 1) := by decide +kernel
theorem dX8_safe_76 : decode cX8_safe 76 = .ok (.iaload, 1) := by decide +kernel
theorem dX8_safe_77 : decode cX8_safe 77 = .ok (.iadd, 1) := by decide +kernel
theorem dX8_safe_78 : decode cX8_safe 78 = .ok (.istore_n 1, 1) := by decide +kernel
theorem dX8_safe_79 : decode cX8_safe 79 = .ok (.iinc 2 1, 3) := by decide +kernel
theorem dX8_safe_82 : decode cX8_safe 82 = .ok (.goto (-65), 3) := by decide +kernel
theorem dX8_safe_85 : decode cX8_safe 85 = .ok (.iconst 0, 1) := by decide +kernel
theorem dX8_safe_86 : decode cX8_safe 86 = .ok (.istore_n 2, 1) := by decide +kernel
theorem dX8_safe_87 : decode cX8_safe 87 = .ok (.iload_n 2, 1) := by decide +kernel
theorem dX8_safe_88 : decode cX8_safe 88 = .ok (.iconst 1, 1) := by decide +kernel
theorem dX8_safe_89 : decode cX8_safe 89 = .ok (.aload_n 0, 1) := by decide +kernel
theorem dX8_safe_90 : decode cX8_safe 90 = .ok (.getfield 70, 3) := by decide +kernel
theorem dX8_safe_93 : decode cX8_safe 93 = .ok (.getfield 149, 3) := by decide +kernel
theorem dX8_safe_96 : decode cX8_safe 96 = .ok (.ishl, 1) := by decide +kernel
theorem dX8_safe_97 : decode cX8_safe 97 = .ok (.if_icmp .ge 21, 3) := by decide +kernel
theorem dX8_safe_100 : decode cX8_safe 100 = .ok (.aload_n 0, 1) := by decide +kernel
theorem dX8_safe_101 : decode cX8_safe 101 = .ok (.iload_n 2, 1) := by decide +kernel
theorem dX8_safe_102 : decode cX8_safe 102 = .ok (.invokevirtual 256, 3) := by decide +kernel
theorem dX8_safe_105 : decode cX8_safe 105 = .ok (.iload_n 1, 1) := by decide +kernel
theorem dX8_safe_106 : decode cX8_safe 106 = .ok (.if_icmp .ge 6, 3) := by decide +kernel
theorem dX8_safe_109 : decode cX8_safe 109 = .ok (.bipush (-9), 2) := by decide +kernel
theorem dX8_safe_111 : decode cX8_safe 111 = .ok (.ireturn, 1) := by decide +kernel
theorem dX8_safe_112 : decode cX8_safe 112 = .ok (.iinc 2 1, 3) := by decide +kernel
theorem dX8_safe_115 : decode cX8_safe 115 = .ok (.goto (-28), 3) := by decide +kernel
theorem dX8_safe_118 : decode cX8_safe 118 = .ok (.iload_n 1, 1) := by decide +kernel
theorem dX8_safe_119 : decode cX8_safe 119 = .ok (.ireturn, 1) := by decide +kernel
def fX8_safe_87  : Nat → Nat → Int32 → Int32 → gz_H → Option (Int32 × gz_H)
  | 0, _, _, _, _ => none
  | n + 1, a0, x1, x2, h =>
    gz_ck (gz_sh h a0 8 19) <|
    gz_br (h.2.2.2 a0 9) fun r_2 =>
    gz_ck (gz_sh h r_2 1 4) <|
    if ((1 : Int32) <<< ((h.2.1 r_2 3) &&& 31)) ≤ x2 then (
     some (x1, h)
    ) else (
     gz_b2 (fX8_cutBy a0 x2 h) fun y_6 h_5 =>
     if x1 ≤ y_6 then (
      fX8_safe_87 n a0 x1 (x2 + 1) h_5
     ) else (
      some ((-9 : Int32), h_5)
     )
    )
set_option maxRecDepth 100000 in
set_option maxHeartbeats 1000000 in
theorem sX8_safe_87 {G : gz_G} {d l0 s0 : Nat} {Q : Int32 → gz_H → Prop} : ∀ (n : Nat) (a0 : Nat) (x1 : Int32) (x2 : Int32) (h : gz_H), gz_g (fX8_safe_87  n a0 x1 x2 h) Q → gz_Ok G mX8_safe (d + 3, l0, s0, 0, 0) 87 [.ref a0, .int x1, .int x2, .retAddr 0] [] h (gz_qi Q) := by
  intro n
  induction n with
  | zero => intro a0 x1 x2 h hf; exact False.elim hf
  | succ n ih =>
    intro a0 x1 x2 h hf
    rw [fX8_safe_87] at hf
    refine gz_iload_n (pc := 87) dX8_safe_87 rfl rfl ?_
    refine gz_iconst (v := (1 : Int32)) (pc := 88) dX8_safe_88 rfl ?_
    refine gz_aload_n (pc := 89) dX8_safe_89 rfl rfl ?_
    refine gz_gk hf (fun c_1 hf => ?_)
    refine gz_gb hf (fun r_2 er_2 hf => ?_)
    refine gz_getR (pc := 90) dX8_safe_90 fl_RX8_70 rfl (gz_shs c_1) er_2 ?_
    refine gz_gk hf (fun c_3 hf => ?_)
    refine gz_getI (pc := 93) dX8_safe_93 fl_RX8_149 rfl (gz_shs c_3) ?_
    refine gz_ishl (pc := 96) dX8_safe_96 ?_
    refine gz_icmp_ge (tgt := 118) (pc := 97) dX8_safe_97 rfl (fun c_4 => ?_) (fun c_4 => ?_)
    · have hf := gz_gT hf c_4
      refine gz_iload_n (pc := 118) dX8_safe_118 rfl rfl ?_
      exact gz_irt (pc := 119) dX8_safe_119 rfl rfl hf
    · have hf := gz_gF hf c_4
      refine gz_aload_n (pc := 100) dX8_safe_100 rfl rfl ?_
      refine gz_iload_n (pc := 101) dX8_safe_101 rfl rfl ?_
      refine gz_cVI (av := [.int x2]) (st := []) (pc := 102) dX8_safe_102 kl_RX8_256 rfl (gz_shs c_1) rfl rfl (Nat.le_of_ble_eq_true rfl) (by show d + 0 + 2 + 1 ≤ d + 3; omega) (sX8_cutBy (d := d + 0) (gz_gc hf)) (fun y_6 h_5 hf => ?_)
      refine gz_iload_n (pc := 105) dX8_safe_105 rfl rfl ?_
      refine gz_icmp_ge (tgt := 112) (pc := 106) dX8_safe_106 rfl (fun c_7 => ?_) (fun c_7 => ?_)
      · have hf := gz_gT hf c_7
        refine gz_iinc (v := x2 + 1) (lv := [.ref a0, .int x1, .int (x2 + 1), .retAddr 0]) (pc := 112) dX8_safe_112 rfl rfl (by decide) rfl ?_
        refine gz_goto (tgt := 87) (pc := 115) dX8_safe_115 rfl ?_
        exact ih a0 x1 (x2 + 1) h_5 hf
      · have hf := gz_gF hf c_7
        refine gz_bipush (v := (-9 : Int32)) (pc := 109) dX8_safe_109 rfl ?_
        exact gz_irt (pc := 111) dX8_safe_111 rfl rfl hf
def fX8_safe_17  : Nat → Nat → Int32 → Int32 → gz_H → Option (Int32 × gz_H)
  | 0, _, _, _, _ => none
  | n + 1, a0, x1, x2, h =>
    gz_ck (gz_sh h a0 8 19) <|
    gz_br (h.2.2.2 a0 9) fun r_2 =>
    gz_ck (gz_sh h r_2 1 4) <|
    if (h.2.1 r_2 2) ≤ x2 then (
     fX8_safe_87 gz_fu a0 x1 (0 : Int32) h
    ) else (
     gz_b2 (fX1_holdersOf r_2 x2 h) fun y_6 h_5 =>
     gz_ck (gz_sh h_5 a0 8 19) <|
     gz_br (h_5.2.2.2 a0 16) fun r_8 =>
     gz_b2 (fJ6_bitCount_0f7a4 y_6 h_5) fun y_10 h_9 =>
     gz_ck (gz_inb h_9 r_8 10 x2) <|
     gz_lt (uI h_9 r_8 x2.toNatClampNeg (gz_mx (0 : Int32) ((2 : Int32) - y_10))) fun h_12 =>
     gz_ck (gz_sh h_12 a0 8 19) <|
     gz_br (h_12.2.2.2 a0 17) fun r_14 =>
     gz_br (h_12.2.2.2 a0 9) fun r_15 =>
     gz_ck (gz_sh h_12 r_15 1 4) <|
     gz_b2 (fX1_aliveSet r_15 h_12) fun y_17 h_16 =>
     gz_ck (gz_inb h_16 r_14 10 x2) <|
     gz_lt (uI h_16 r_14 x2.toNatClampNeg (y_17 &&& (y_6 ^^^ (-1 : Int32)))) fun h_20 =>
     gz_ck (gz_sh h_20 a0 8 19) <|
     gz_br (h_20.2.2.2 a0 16) fun r_22 =>
     gz_ck (gz_inb h_20 r_22 10 x2) <|
     fX8_safe_17 n a0 (x1 + (h_20.2.1 r_22 x2.toNatClampNeg)) (x2 + 1) h_20
    )
set_option maxRecDepth 100000 in
set_option maxHeartbeats 1000000 in
theorem sX8_safe_17 {G : gz_G} {d l0 s0 : Nat} {Q : Int32 → gz_H → Prop} : ∀ (n : Nat) (a0 : Nat) (x1 : Int32) (x2 : Int32) (h : gz_H), gz_g (fX8_safe_17  n a0 x1 x2 h) Q → gz_Ok G mX8_safe (d + 3, l0, s0, 0, 0) 17 [.ref a0, .int x1, .int x2, .retAddr 0] [] h (gz_qi Q) := by
  intro n
  induction n with
  | zero => intro a0 x1 x2 h hf; exact False.elim hf
  | succ n ih =>
    intro a0 x1 x2 h hf
    rw [fX8_safe_17] at hf
    refine gz_iload_n (pc := 17) dX8_safe_17 rfl rfl ?_
    refine gz_aload_n (pc := 18) dX8_safe_18 rfl rfl ?_
    refine gz_gk hf (fun c_1 hf => ?_)
    refine gz_gb hf (fun r_2 er_2 hf => ?_)
    refine gz_getR (pc := 19) dX8_safe_19 fl_RX8_70 rfl (gz_shs c_1) er_2 ?_
    refine gz_gk hf (fun c_3 hf => ?_)
    refine gz_getI (pc := 22) dX8_safe_22 fl_RX8_245 rfl (gz_shs c_3) ?_
    refine gz_icmp_ge (tgt := 85) (pc := 25) dX8_safe_25 rfl (fun c_4 => ?_) (fun c_4 => ?_)
    · have hf := gz_gT hf c_4
      refine gz_iconst (v := (0 : Int32)) (pc := 85) dX8_safe_85 rfl ?_
      refine gz_istore_n (lv := [.ref a0, .int x1, .int (0 : Int32), .retAddr 0]) (pc := 86) dX8_safe_86 rfl (by decide) rfl ?_
      exact sX8_safe_87 gz_fu a0 x1 (0 : Int32) h hf
    · have hf := gz_gF hf c_4
      refine gz_aload_n (pc := 28) dX8_safe_28 rfl rfl ?_
      refine gz_getR (pc := 29) dX8_safe_29 fl_RX8_70 rfl (gz_shs c_1) er_2 ?_
      refine gz_iload_n (pc := 32) dX8_safe_32 rfl rfl ?_
      refine gz_cVI (av := [.int x2]) (st := []) (pc := 33) dX8_safe_33 kl_RX8_207 rfl (gz_shs c_3) rfl rfl (Nat.le_of_ble_eq_true rfl) (by show d + 0 + 2 + 1 ≤ d + 3; omega) (sX1_holdersOf (d := d + 0) (gz_gc hf)) (fun y_6 h_5 hf => ?_)
      refine gz_istore_n (lv := [.ref a0, .int x1, .int x2, .int y_6]) (pc := 36) dX8_safe_36 rfl (by decide) rfl ?_
      refine gz_aload_n (pc := 37) dX8_safe_37 rfl rfl ?_
      refine gz_gk hf (fun c_7 hf => ?_)
      refine gz_gb hf (fun r_8 er_8 hf => ?_)
      refine gz_getR (pc := 38) dX8_safe_38 fl_RX8_93 rfl (gz_shs c_7) er_8 ?_
      refine gz_iload_n (pc := 41) dX8_safe_41 rfl rfl ?_
      refine gz_iconst (v := (0 : Int32)) (pc := 42) dX8_safe_42 rfl ?_
      refine gz_iconst (v := (2 : Int32)) (pc := 43) dX8_safe_43 rfl ?_
      refine gz_iload_n (pc := 44) dX8_safe_44 rfl rfl ?_
      refine gz_cSI (av := [.int y_6]) (st := [.int (2 : Int32), .int (0 : Int32), .int x2, .ref r_8]) (pc := 45) dX8_safe_45 kl_RX8_226 rfl rfl (Nat.le_of_ble_eq_true rfl) (by show d + 2 + 0 + 1 ≤ d + 3; omega) (sJ6_bitCount_0f7a4 (d := d + 2) (gz_gc hf)) (fun y_10 h_9 hf => ?_)
      refine gz_isub (pc := 48) dX8_safe_48 ?_
      refine gz_max (pc := 49) dX8_safe_49 kmx_RX8_248 (by show 1 ≤ d + 3; omega) (Nat.le_of_ble_eq_true rfl) ?_
      refine gz_gk hf (fun c_11 hf => ?_)
      refine gz_iast (pc := 52) dX8_safe_52 c_11 ?_
      refine gz_nmH (fun h_12 eh_12 => ?_)
      have hf := gz_gl eh_12 hf
      refine gz_aload_n (pc := 53) dX8_safe_53 rfl rfl ?_
      refine gz_gk hf (fun c_13 hf => ?_)
      refine gz_gb hf (fun r_14 er_14 hf => ?_)
      refine gz_getR (pc := 54) dX8_safe_54 fl_RX8_96 rfl (gz_shs c_13) er_14 ?_
      refine gz_iload_n (pc := 57) dX8_safe_57 rfl rfl ?_
      refine gz_aload_n (pc := 58) dX8_safe_58 rfl rfl ?_
      refine gz_gb hf (fun r_15 er_15 hf => ?_)
      refine gz_getR (pc := 59) dX8_safe_59 fl_RX8_70 rfl (gz_shs c_13) er_15 ?_
      refine gz_gk hf (fun c_18 hf => ?_)
      refine gz_cVI (av := []) (st := [.int x2, .ref r_14]) (pc := 62) dX8_safe_62 kl_RX8_253 rfl (gz_shs c_18) rfl rfl (Nat.le_of_ble_eq_true rfl) (by show d + 2 + 0 + 1 ≤ d + 3; omega) (sX1_aliveSet (d := d + 2) (gz_gc hf)) (fun y_17 h_16 hf => ?_)
      refine gz_iload_n (pc := 65) dX8_safe_65 rfl rfl ?_
      refine gz_iconst (v := (-1 : Int32)) (pc := 66) dX8_safe_66 rfl ?_
      refine gz_ixor (pc := 67) dX8_safe_67 ?_
      refine gz_iand (pc := 68) dX8_safe_68 ?_
      refine gz_gk hf (fun c_19 hf => ?_)
      refine gz_iast (pc := 69) dX8_safe_69 c_19 ?_
      refine gz_nmH (fun h_20 eh_20 => ?_)
      have hf := gz_gl eh_20 hf
      refine gz_iload_n (pc := 70) dX8_safe_70 rfl rfl ?_
      refine gz_aload_n (pc := 71) dX8_safe_71 rfl rfl ?_
      refine gz_gk hf (fun c_21 hf => ?_)
      refine gz_gb hf (fun r_22 er_22 hf => ?_)
      refine gz_getR (pc := 72) dX8_safe_72 fl_RX8_93 rfl (gz_shs c_21) er_22 ?_
      refine gz_iload_n (pc := 75) dX8_safe_75 rfl rfl ?_
      refine gz_gk hf (fun c_23 hf => ?_)
      refine gz_iald (pc := 76) dX8_safe_76 c_23 ?_
      refine gz_iadd (pc := 77) dX8_safe_77 ?_
      refine gz_istore_n (lv := [.ref a0, .int (x1 + (h_20.2.1 r_22 x2.toNatClampNeg)), .int x2, .int y_6]) (pc := 78) dX8_safe_78 rfl (by decide) rfl ?_
      refine gz_iinc (v := x2 + 1) (lv := [.ref a0, .int (x1 + (h_20.2.1 r_22 x2.toNatClampNeg)), .int (x2 + 1), .int y_6]) (pc := 79) dX8_safe_79 rfl rfl (by decide) rfl ?_
      refine gz_goto (tgt := 17) (pc := 82) dX8_safe_82 rfl ?_
      refine gz_fg (lv := [.ref a0, .int (x1 + (h_20.2.1 r_22 x2.toNatClampNeg)), .int (x2 + 1), .retAddr 0]) ⟨Or.inr rfl, ⟨Or.inr rfl, ⟨Or.inr rfl, ⟨Or.inl rfl, trivial⟩⟩⟩⟩ ?_
      exact ih a0 (x1 + (h_20.2.1 r_22 x2.toNatClampNeg)) (x2 + 1) h_20 hf
def fX8_safe_0  (a0 : Nat) (h : gz_H) : Option (Int32 × gz_H) :=
    gz_ck (gz_sh h a0 8 19) <|
    gz_br (h.2.2.2 a0 9) fun r_2 =>
    gz_ck (gz_sh h r_2 1 4) <|
    gz_b2 (fX1_hasGeese r_2 h) fun y_4 h_3 =>
    if y_4 = 0 then (
     some ((-4 : Int32), h_3)
    ) else (
     fX8_safe_17 gz_fu a0 (0 : Int32) (0 : Int32) h_3
    )
set_option maxRecDepth 100000 in
set_option maxHeartbeats 1000000 in
theorem sX8_safe_0 {G : gz_G} {d l0 s0 : Nat} {Q : Int32 → gz_H → Prop} (a0 : Nat) (h : gz_H) (hf : gz_g (fX8_safe_0  a0 h) Q) : gz_Ok G mX8_safe (d + 3, l0, s0, 0, 0) 0 [.ref a0, .retAddr 0, .retAddr 0, .retAddr 0] [] h (gz_qi Q) := by
  unfold fX8_safe_0 at hf
  refine gz_aload_n (pc := 0) dX8_safe_0 rfl rfl ?_
  refine gz_gk hf (fun c_1 hf => ?_)
  refine gz_gb hf (fun r_2 er_2 hf => ?_)
  refine gz_getR (pc := 1) dX8_safe_1 fl_RX8_70 rfl (gz_shs c_1) er_2 ?_
  refine gz_gk hf (fun c_5 hf => ?_)
  refine gz_cVI (av := []) (st := []) (pc := 4) dX8_safe_4 kl_RX8_183 rfl (gz_shs c_5) rfl rfl (Nat.le_of_ble_eq_true rfl) (by show d + 2 + 0 + 1 ≤ d + 3; omega) (sX1_hasGeese (d := d + 2) (gz_gc hf)) (fun y_4 h_3 hf => ?_)
  refine gz_if_ne (tgt := 13) (pc := 7) dX8_safe_7 rfl (fun c_6 => ?_) (fun c_6 => ?_)
  · have hf := gz_gF hf c_6
    refine gz_iconst (v := (0 : Int32)) (pc := 13) dX8_safe_13 rfl ?_
    refine gz_istore_n (lv := [.ref a0, .int (0 : Int32), .retAddr 0, .retAddr 0]) (pc := 14) dX8_safe_14 rfl (by decide) rfl ?_
    refine gz_iconst (v := (0 : Int32)) (pc := 15) dX8_safe_15 rfl ?_
    refine gz_istore_n (lv := [.ref a0, .int (0 : Int32), .int (0 : Int32), .retAddr 0]) (pc := 16) dX8_safe_16 rfl (by decide) rfl ?_
    exact sX8_safe_17 gz_fu a0 (0 : Int32) (0 : Int32) h_3 hf
  · have hf := gz_gT hf c_6
    refine gz_bipush (v := (-4 : Int32)) (pc := 10) dX8_safe_10 rfl ?_
    exact gz_irt (pc := 12) dX8_safe_12 rfl rfl hf
def fX8_safe (a0 : Nat) (h : gz_H) : Option (Int32 × gz_H) := fX8_safe_0 a0 h
theorem sX8_safe {G : gz_G} {d : Nat} {a0 : Nat} {h : gz_H} {Q : Int32 → gz_H → Prop} (hf : gz_g (fX8_safe a0 h) Q) : gz_Cl G mX8_safe (d + 3) 0 0 [.ref a0] h (gz_qi Q) := gz_cl_of (lo := [.ref a0, .retAddr 0, .retAddr 0, .retAddr 0]) (by decide) rfl rfl (Nat.le_of_ble_eq_true rfl) (sX8_safe_0 a0 h hf)
theorem dX8_share_0 : decode cX8_share 0 = .ok (.aload_n 0, 1) := by decide +kernel
theorem dX8_share_1 : decode cX8_share 1 = .ok (.getfield 70, 3) := by decide +kernel
theorem dX8_share_4 : decode cX8_share 4 = .ok (.iload_n 1, 1) := by decide +kernel
theorem dX8_share_5 : decode cX8_share 5 = .ok (.invokevirtual 150, 3) := by decide +kernel
theorem dX8_share_8 : decode cX8_share 8 = .ok (.ifCond .ne 5, 3) := by decide +kernel
theorem dX8_share_11 : decode cX8_share 11 = .ok (.iconst (-1), 1) := by decide +kernel
theorem dX8_share_12 : decode cX8_share 12 = .ok (.ireturn, 1) := by decide +kernel
theorem dX8_share_13 : decode cX8_share 13 = .ok (.aload_n 0, 1) := by decide +kernel
theorem dX8_share_14 : decode cX8_share 14 = .ok (.invokevirtual 197, 3) := by decide +kernel
theorem dX8_share_17 : decode cX8_share 17 = .ok (.iconst 0, 1) := by decide +kernel
theorem dX8_share_18 : decode cX8_share 18 = .ok (.istore_n 2, 1) := by decide +kernel
theorem dX8_share_19 : decode cX8_share 19 = .ok (.iconst 0, 1) := by decide +kernel
theorem dX8_share_20 : decode cX8_share 20 = .ok (.istore_n 3, 1) := by decide +kernel
theorem dX8_share_21 : decode cX8_share 21 = .ok (.iload_n 3, 1) := by decide +kernel
theorem dX8_share_22 : decode cX8_share 22 = .ok (.aload_n 0, 1) := by decide +kernel
theorem dX8_share_23 : decode cX8_share 23 = .ok (.getfield 70, 3) := by decide +kernel
theorem dX8_share_26 : decode cX8_share 26 = .ok (.getfield 245, 3) := by decide +kernel
theorem dX8_share_29 : decode cX8_share 29 = .ok (.if_icmp .ge 48, 3) := by decide +kernel
theorem dX8_share_32 : decode cX8_share 32 = .ok (.aload_n 0, 1) := by decide +kernel
theorem dX8_share_33 : decode cX8_share 33 = .ok (.getfield 80, 3) := by decide +kernel
theorem dX8_share_36 : decode cX8_share 36 = .ok (.iload_n 3, 1) := by decide +kernel
theorem dX8_share_37 : decode cX8_share 37 = .ok (.invokestatic 204, 3) := by decide +kernel
theorem dX8_share_40 : decode cX8_share 40 = .ok (.istore 4, 2) := by decide +kernel
theorem dX8_share_42 : decode cX8_share 42 = .ok (.iload 4, 2) := by decide +kernel
theorem dX8_share_44 : decode cX8_share 44 = .ok (.invokestatic 226, 3) := by decide +kernel
theorem dX8_share_47 : decode cX8_share 47 = .ok (.istore 5, 2) := by decide +kernel
theorem dX8_share_49 : decode cX8_share 49 = .ok (.iload 4, 2) := by decide +kernel
theorem dX8_share_51 : decode cX8_share 51 = .ok (.iload_n 1, 1) := by decide +kernel
theorem dX8_share_52 : decode cX8_share 52 = .ok (.ishr, 1) := by decide +kernel
theorem dX8_share_53 : decode cX8_share 53 = .ok (.iconst 1, 1) := by decide +kernel
theorem dX8_share_54 : decode cX8_share 54 = .ok (.iand, 1) := by decide +kernel
theorem dX8_share_55 : decode cX8_share 55 = .ok (.ifCond .eq 16, 3) := by decide +kernel
theorem dX8_share_58 : decode cX8_share 58 = .ok (.iload 5, 2) := by decide +kernel
theorem dX8_share_60 : decode cX8_share 60 = .ok (.ifCond .le 11, 3) := by decide +kernel
theorem dX8_share_63 : decode cX8_share 63 = .ok (.iload_n 2, 1) := by decide +kernel
theorem dX8_share_64 : decode cX8_share 64 = .ok (.bipush 60, 2) := by decide +kernel
theorem dX8_share_66 : decode cX8_share 66 = .ok (.iload 5, 2) := by decide +kernel
theorem dX8_share_68 : decode cX8_share 68 = .ok (.idiv, 1) := by decide +kernel
theorem dX8_share_69 : decode cX8_share 69 = .ok (.iadd, 1) := by decide +kernel
theorem dX8_share_70 : decode cX8_share 70 = .ok (.istore_n 2, 1) := by decide +kernel
theorem dX8_share_71 : decode cX8_share 71 = .ok (.iinc 3 1, 3) := by decide +kernel
theorem dX8_share_74 : decode cX8_share 74 = .ok (.goto (-53), 3) := by decide +kernel
theorem dX8_share_77 : decode cX8_share 77 = .ok (.aload_n 0, 1) := by decide +kernel
theorem dX8_share_78 : decode cX8_share 78 = .ok (.getfield 38, 3) := by decide +kernel
theorem dX8_share_81 : decode cX8_share 81 = .ok (.iload_n 2, 1) := by decide +kernel
theorem dX8_share_82 : decode cX8_share 82 = .ok (.i2l, 1) := by decide +kernel
theorem dX8_share_83 : decode cX8_share 83 = .ok (.ldc2_w 259, 3) := by decide +kernel
theorem dX8_share_86 : decode cX8_share 86 = .ok (.invokevirtual 261, 3) := by decide +kernel
theorem dX8_share_89 : decode cX8_share 89 = .ok (.iconst 1, 1) := by decide +kernel
theorem dX8_share_90 : decode cX8_share 90 = .ok (.ireturn, 1) := by decide +kernel
def fX8_share_71 (k21 : Nat → Int32 → Int32 → Int32 → gz_H → Option (Int32 × gz_H)) (a0 : Nat) (x1 : Int32) (x2 : Int32) (x3 : Int32) (h : gz_H) : Option (Int32 × gz_H) :=
    k21 a0 x1 x2 (x3 + 1) h
set_option maxRecDepth 100000 in
set_option maxHeartbeats 1000000 in
theorem sX8_share_71 {G : gz_G} {d l0 s0 : Nat} {Q : Int32 → gz_H → Prop} {k21 : Nat → Int32 → Int32 → Int32 → gz_H → Option (Int32 × gz_H)} (hk21 : ∀ (a0 : Nat) (x1 : Int32) (x2 : Int32) (x3 : Int32) (h : gz_H), gz_g (k21 a0 x1 x2 x3 h) Q → gz_Ok G mX8_share (d + 5, l0, s0, 0, 0) 21 [.ref a0, .int x1, .int x2, .int x3, .retAddr 0, .retAddr 0] [] h (gz_qi Q)) (a0 : Nat) (x1 : Int32) (x2 : Int32) (x3 : Int32) (h : gz_H) (hf : gz_g (fX8_share_71 k21 a0 x1 x2 x3 h) Q) : gz_Ok G mX8_share (d + 5, l0, s0, 0, 0) 71 [.ref a0, .int x1, .int x2, .int x3, .retAddr 0, .retAddr 0] [] h (gz_qi Q) := by
  unfold fX8_share_71 at hf
  refine gz_iinc (v := x3 + 1) (lv := [.ref a0, .int x1, .int x2, .int (x3 + 1), .retAddr 0, .retAddr 0]) (pc := 71) dX8_share_71 rfl rfl (by decide) rfl ?_
  refine gz_goto (tgt := 21) (pc := 74) dX8_share_74 rfl ?_
  exact hk21 a0 x1 x2 (x3 + 1) h hf
def fX8_share_21  : Nat → Nat → Int32 → Int32 → Int32 → gz_H → Option (Int32 × gz_H)
  | 0, _, _, _, _, _ => none
  | n + 1, a0, x1, x2, x3, h =>
    gz_ck (gz_sh h a0 8 19) <|
    gz_br (h.2.2.2 a0 9) fun r_2 =>
    gz_ck (gz_sh h r_2 1 4) <|
    if (h.2.1 r_2 2) ≤ x3 then (
     gz_br (h.2.2.2 a0 4) fun r_5 =>
     gz_ck (gz_sh h r_5 4 2) <|
     gz_b2 (fX4_become r_5 x2.toInt64 (60 : Int64) h) fun _ h_6 =>
     some ((1 : Int32), h_6)
    ) else (
     gz_br (h.2.2.2 a0 12) fun r_9 =>
     gz_b2 (fX8_whichHave r_9 x3 h) fun y_11 h_10 =>
     gz_b2 (fJ6_bitCount_0f7a4 y_11 h_10) fun y_13 h_12 =>
     if ((y_11 >>> (x1 &&& 31)) &&& (1 : Int32)) = 0 then (
      fX8_share_71 (fun z0 z1 z2 z3 zh => fX8_share_21 n z0 z1 z2 z3 zh) a0 x1 x2 x3 h_12
     ) else (
      if y_13 ≤ 0 then (
       fX8_share_71 (fun z0 z1 z2 z3 zh => fX8_share_21 n z0 z1 z2 z3 zh) a0 x1 x2 x3 h_12
      ) else (
       gz_ck (gz_nzI y_13) <|
       fX8_share_71 (fun z0 z1 z2 z3 zh => fX8_share_21 n z0 z1 z2 z3 zh) a0 x1 (x2 + ((60 : Int32) / y_13)) x3 h_12
      )
     )
    )
set_option maxRecDepth 100000 in
set_option maxHeartbeats 1000000 in
theorem sX8_share_21 {G : gz_G} {d l0 s0 : Nat} {Q : Int32 → gz_H → Prop} : ∀ (n : Nat) (a0 : Nat) (x1 : Int32) (x2 : Int32) (x3 : Int32) (h : gz_H), gz_g (fX8_share_21  n a0 x1 x2 x3 h) Q → gz_Ok G mX8_share (d + 5, l0, s0, 0, 0) 21 [.ref a0, .int x1, .int x2, .int x3, .retAddr 0, .retAddr 0] [] h (gz_qi Q) := by
  intro n
  induction n with
  | zero => intro a0 x1 x2 x3 h hf; exact False.elim hf
  | succ n ih =>
    intro a0 x1 x2 x3 h hf
    rw [fX8_share_21] at hf
    refine gz_iload_n (pc := 21) dX8_share_21 rfl rfl ?_
    refine gz_aload_n (pc := 22) dX8_share_22 rfl rfl ?_
    refine gz_gk hf (fun c_1 hf => ?_)
    refine gz_gb hf (fun r_2 er_2 hf => ?_)
    refine gz_getR (pc := 23) dX8_share_23 fl_RX8_70 rfl (gz_shs c_1) er_2 ?_
    refine gz_gk hf (fun c_3 hf => ?_)
    refine gz_getI (pc := 26) dX8_share_26 fl_RX8_245 rfl (gz_shs c_3) ?_
    refine gz_icmp_ge (tgt := 77) (pc := 29) dX8_share_29 rfl (fun c_4 => ?_) (fun c_4 => ?_)
    · have hf := gz_gT hf c_4
      refine gz_aload_n (pc := 77) dX8_share_77 rfl rfl ?_
      refine gz_gb hf (fun r_5 er_5 hf => ?_)
      refine gz_getR (pc := 78) dX8_share_78 fl_RX8_38 rfl (gz_shs c_1) er_5 ?_
      refine gz_iload_n (pc := 81) dX8_share_81 rfl rfl ?_
      refine gz_i2l (pc := 82) dX8_share_82 ?_
      refine gz_ldc2 (v := (60 : Int64)) (pc := 83) dX8_share_83 kc_RX8_259 ?_
      refine gz_gk hf (fun c_8 hf => ?_)
      refine gz_cVV (av := [.long x2.toInt64, .long (60 : Int64)]) (st := []) (pc := 86) dX8_share_86 kl_RX8_261 rfl (gz_shs c_8) rfl rfl (Nat.le_of_ble_eq_true rfl) (by show d + 3 + 1 + 1 ≤ d + 5; omega) (sX4_become (d := d + 3) (gz_gc hf)) (fun _ h_6 hf => ?_)
      refine gz_iconst (v := (1 : Int32)) (pc := 89) dX8_share_89 rfl ?_
      exact gz_irt (pc := 90) dX8_share_90 rfl rfl hf
    · have hf := gz_gF hf c_4
      refine gz_aload_n (pc := 32) dX8_share_32 rfl rfl ?_
      refine gz_gb hf (fun r_9 er_9 hf => ?_)
      refine gz_getR (pc := 33) dX8_share_33 fl_RX8_80 rfl (gz_shs c_1) er_9 ?_
      refine gz_iload_n (pc := 36) dX8_share_36 rfl rfl ?_
      refine gz_cSI (av := [.ref r_9, .int x3]) (st := []) (pc := 37) dX8_share_37 kl_RX8_204 rfl rfl (Nat.le_of_ble_eq_true rfl) (by show d + 4 + 0 + 1 ≤ d + 5; omega) (sX8_whichHave (d := d + 4) (gz_gc hf)) (fun y_11 h_10 hf => ?_)
      refine gz_istore (lv := [.ref a0, .int x1, .int x2, .int x3, .int y_11, .retAddr 0]) (pc := 40) dX8_share_40 (by decide) rfl ?_
      refine gz_iload (pc := 42) dX8_share_42 rfl ?_
      refine gz_cSI (av := [.int y_11]) (st := []) (pc := 44) dX8_share_44 kl_RX8_226 rfl rfl (Nat.le_of_ble_eq_true rfl) (by show d + 4 + 0 + 1 ≤ d + 5; omega) (sJ6_bitCount_0f7a4 (d := d + 4) (gz_gc hf)) (fun y_13 h_12 hf => ?_)
      refine gz_istore (lv := [.ref a0, .int x1, .int x2, .int x3, .int y_11, .int y_13]) (pc := 47) dX8_share_47 (by decide) rfl ?_
      refine gz_iload (pc := 49) dX8_share_49 rfl ?_
      refine gz_iload_n (pc := 51) dX8_share_51 rfl rfl ?_
      refine gz_ishr (pc := 52) dX8_share_52 ?_
      refine gz_iconst (v := (1 : Int32)) (pc := 53) dX8_share_53 rfl ?_
      refine gz_iand (pc := 54) dX8_share_54 ?_
      refine gz_if_eq (tgt := 71) (pc := 55) dX8_share_55 rfl (fun c_14 => ?_) (fun c_14 => ?_)
      · have hf := gz_gT hf c_14
        refine gz_fg (lv := [.ref a0, .int x1, .int x2, .int x3, .retAddr 0, .retAddr 0]) ⟨Or.inr rfl, ⟨Or.inr rfl, ⟨Or.inr rfl, ⟨Or.inr rfl, ⟨Or.inl rfl, ⟨Or.inl rfl, trivial⟩⟩⟩⟩⟩⟩ ?_
        exact sX8_share_71 ih a0 x1 x2 x3 h_12 hf
      · have hf := gz_gF hf c_14
        refine gz_iload (pc := 58) dX8_share_58 rfl ?_
        refine gz_if_le (tgt := 71) (pc := 60) dX8_share_60 rfl (fun c_15 => ?_) (fun c_15 => ?_)
        · have hf := gz_gT hf c_15
          refine gz_fg (lv := [.ref a0, .int x1, .int x2, .int x3, .retAddr 0, .retAddr 0]) ⟨Or.inr rfl, ⟨Or.inr rfl, ⟨Or.inr rfl, ⟨Or.inr rfl, ⟨Or.inl rfl, ⟨Or.inl rfl, trivial⟩⟩⟩⟩⟩⟩ ?_
          exact sX8_share_71 ih a0 x1 x2 x3 h_12 hf
        · have hf := gz_gF hf c_15
          refine gz_iload_n (pc := 63) dX8_share_63 rfl rfl ?_
          refine gz_bipush (v := (60 : Int32)) (pc := 64) dX8_share_64 rfl ?_
          refine gz_iload (pc := 66) dX8_share_66 rfl ?_
          refine gz_gk hf (fun c_16 hf => ?_)
          refine gz_idiv (pc := 68) dX8_share_68 (gz_nzIs c_16) ?_
          refine gz_iadd (pc := 69) dX8_share_69 ?_
          refine gz_istore_n (lv := [.ref a0, .int x1, .int (x2 + ((60 : Int32) / y_13)), .int x3, .int y_11, .int y_13]) (pc := 70) dX8_share_70 rfl (by decide) rfl ?_
          refine gz_fg (lv := [.ref a0, .int x1, .int (x2 + ((60 : Int32) / y_13)), .int x3, .retAddr 0, .retAddr 0]) ⟨Or.inr rfl, ⟨Or.inr rfl, ⟨Or.inr rfl, ⟨Or.inr rfl, ⟨Or.inl rfl, ⟨Or.inl rfl, trivial⟩⟩⟩⟩⟩⟩ ?_
          exact sX8_share_71 ih a0 x1 (x2 + ((60 : Int32) / y_13)) x3 h_12 hf
def fX8_share_0  (a0 : Nat) (x1 : Int32) (h : gz_H) : Option (Int32 × gz_H) :=
    gz_ck (gz_sh h a0 8 19) <|
    gz_br (h.2.2.2 a0 9) fun r_2 =>
    gz_ck (gz_sh h r_2 1 4) <|
    gz_b2 (fX1_hasGoose r_2 x1 h) fun y_4 h_3 =>
    if y_4 = 0 then (
     some ((-1 : Int32), h_3)
    ) else (
     gz_ck (gz_sh h_3 a0 8 19) <|
     gz_b2 (fX8_hearAll a0 h_3) fun _ h_7 =>
     fX8_share_21 gz_fu a0 x1 (0 : Int32) (0 : Int32) h_7
    )
set_option maxRecDepth 100000 in
set_option maxHeartbeats 1000000 in
theorem sX8_share_0 {G : gz_G} {d l0 s0 : Nat} {Q : Int32 → gz_H → Prop} (a0 : Nat) (x1 : Int32) (h : gz_H) (hf : gz_g (fX8_share_0  a0 x1 h) Q) : gz_Ok G mX8_share (d + 5, l0, s0, 0, 0) 0 [.ref a0, .int x1, .retAddr 0, .retAddr 0, .retAddr 0, .retAddr 0] [] h (gz_qi Q) := by
  unfold fX8_share_0 at hf
  refine gz_aload_n (pc := 0) dX8_share_0 rfl rfl ?_
  refine gz_gk hf (fun c_1 hf => ?_)
  refine gz_gb hf (fun r_2 er_2 hf => ?_)
  refine gz_getR (pc := 1) dX8_share_1 fl_RX8_70 rfl (gz_shs c_1) er_2 ?_
  refine gz_iload_n (pc := 4) dX8_share_4 rfl rfl ?_
  refine gz_gk hf (fun c_5 hf => ?_)
  refine gz_cVI (av := [.int x1]) (st := []) (pc := 5) dX8_share_5 kl_RX8_150 rfl (gz_shs c_5) rfl rfl (Nat.le_of_ble_eq_true rfl) (by show d + 4 + 0 + 1 ≤ d + 5; omega) (sX1_hasGoose (d := d + 4) (gz_gc hf)) (fun y_4 h_3 hf => ?_)
  refine gz_if_ne (tgt := 13) (pc := 8) dX8_share_8 rfl (fun c_6 => ?_) (fun c_6 => ?_)
  · have hf := gz_gF hf c_6
    refine gz_aload_n (pc := 13) dX8_share_13 rfl rfl ?_
    refine gz_gk hf (fun c_9 hf => ?_)
    refine gz_cVV (av := []) (st := []) (pc := 14) dX8_share_14 kl_RX8_197 rfl (gz_shs c_9) rfl rfl (Nat.le_of_ble_eq_true rfl) (by show d + 0 + 4 + 1 ≤ d + 5; omega) (sX8_hearAll (d := d + 0) (gz_gc hf)) (fun _ h_7 hf => ?_)
    refine gz_iconst (v := (0 : Int32)) (pc := 17) dX8_share_17 rfl ?_
    refine gz_istore_n (lv := [.ref a0, .int x1, .int (0 : Int32), .retAddr 0, .retAddr 0, .retAddr 0]) (pc := 18) dX8_share_18 rfl (by decide) rfl ?_
    refine gz_iconst (v := (0 : Int32)) (pc := 19) dX8_share_19 rfl ?_
    refine gz_istore_n (lv := [.ref a0, .int x1, .int (0 : Int32), .int (0 : Int32), .retAddr 0, .retAddr 0]) (pc := 20) dX8_share_20 rfl (by decide) rfl ?_
    exact sX8_share_21 gz_fu a0 x1 (0 : Int32) (0 : Int32) h_7 hf
  · have hf := gz_gT hf c_6
    refine gz_iconst (v := (-1 : Int32)) (pc := 11) dX8_share_11 rfl ?_
    exact gz_irt (pc := 12) dX8_share_12 rfl rfl hf
def fX8_share (a0 : Nat) (x1 : Int32) (h : gz_H) : Option (Int32 × gz_H) := fX8_share_0 a0 x1 h
theorem sX8_share {G : gz_G} {d : Nat} {a0 : Nat} {x1 : Int32} {h : gz_H} {Q : Int32 → gz_H → Prop} (hf : gz_g (fX8_share a0 x1 h) Q) : gz_Cl G mX8_share (d + 5) 0 0 [.ref a0, .int x1] h (gz_qi Q) := gz_cl_of (lo := [.ref a0, .int x1, .retAddr 0, .retAddr 0, .retAddr 0, .retAddr 0]) (by decide) rfl rfl (Nat.le_of_ble_eq_true rfl) (sX8_share_0 a0 x1 h hf)
theorem dX8_readReport_0 : decode cX8_readReport 0 = .ok (.aload_n 0, 1) := by decide +kernel
theorem dX8_readReport_1 : decode cX8_readReport 1 = .ok (.getfield 14, 3) := by decide +kernel
theorem dX8_readReport_4 : decode cX8_readReport 4 = .ok (.iload_n 1, 1) := by decide +kernel
theorem dX8_readReport_5 : decode cX8_readReport 5 = .ok (.invokevirtual 122, 3) := by decide +kernel
theorem dX8_readReport_8 : decode cX8_readReport 8 = .ok (.ifCond .ne 12, 3) := by decide +kernel
theorem dX8_readReport_11 : decode cX8_readReport 11 = .ok (.aload_n 0, 1) := by decide +kernel
theorem dX8_readReport_12 : decode cX8_readReport 12 = .ok (.getfield 31, 3) := by decide +kernel
theorem dX8_readReport_15 : decode cX8_readReport 15 = .ok (.iconst 1, 1) := by decide +kernel
theorem dX8_readReport_16 : decode cX8_readReport 16 = .ok (.invokevirtual 125, 3) := by decide +kernel
theorem dX8_readReport_19 : decode cX8_readReport 19 = .ok (.ireturn, 1) := by decide +kernel
theorem dX8_readReport_20 : decode cX8_readReport 20 = .ok (.aload_n 0, 1) := by decide +kernel
theorem dX8_readReport_21 : decode cX8_readReport 21 = .ok (.getfield 14, 3) := by decide +kernel
theorem dX8_readReport_24 : decode cX8_readReport 24 = .ok (.getfield 129, 3) := by decide +kernel
theorem dX8_readReport_27 : decode cX8_readReport 27 = .ok (.iload_n 1, 1) := by decide +kernel
theorem dX8_readReport_28 : decode cX8_readReport 28 = .ok (.iaload, 1) := by decide +kernel
theorem dX8_readReport_29 : decode cX8_readReport 29 = .ok (.istore_n 2, 1) := by decide +kernel
theorem dX8_readReport_30 : decode cX8_readReport 30 = .ok (.aload_n 0, 1) := by decide +kernel
theorem dX8_readReport_31 : decode cX8_readReport 31 = .ok (.getfield 14, 3) := by decide +kernel
theorem dX8_readReport_34 : decode cX8_readReport 34 = .ok (.getfield 111, 3) := by decide +kernel
theorem dX8_readReport_37 : decode cX8_readReport 37 = .ok (.iload_n 1, 1) := by decide +kernel
theorem dX8_readReport_38 : decode cX8_readReport 38 = .ok (.aaload, 1) := by decide +kernel
theorem dX8_readReport_39 : decode cX8_readReport 39 = .ok (.astore_n 3, 1) := by decide +kernel
theorem dX8_readReport_40 : decode cX8_readReport 40 = .ok (.iload_n 2, 1) := by decide +kernel
theorem dX8_readReport_41 : decode cX8_readReport 41 = .ok (.iconst 2, 1) := by decide +kernel
theorem dX8_readReport_42 : decode cX8_readReport 42 = .ok (.irem, 1) := by decide +kernel
theorem dX8_readReport_43 : decode cX8_readReport 43 = .ok (.ifCond .eq 12, 3) := by decide +kernel
theorem dX8_readReport_46 : decode cX8_readReport 46 = .ok (.aload_n 0, 1) := by decide +kernel
theorem dX8_readReport_47 : decode cX8_readReport 47 = .ok (.getfield 31, 3) := by decide +kernel
theorem dX8_readReport_50 : decode cX8_readReport 50 = .ok (.iconst 5, 1) := by decide +kernel
theorem dX8_readReport_51 : decode cX8_readReport 51 = .ok (.invokevirtual 125, 3) := by decide +kernel
theorem dX8_readReport_54 : decode cX8_readReport 54 = .ok (.ireturn, 1) := by decide +kernel
theorem dX8_readReport_55 : decode cX8_readReport 55 = .ok (.iconst 0, 1) := by decide +kernel
theorem dX8_readReport_56 : decode cX8_readReport 56 = .ok (.istore 4, 2) := by decide +kernel
theorem dX8_readReport_58 : decode cX8_readReport 58 = .ok (.iload 4, 2) := by decide +kernel
theorem dX8_readReport_60 : decode cX8_readReport 60 = .ok (.iconst 1, 1) := by decide +kernel
theorem dX8_readReport_61 : decode cX8_readReport 61 = .ok (.iadd, 1) := by decide +kernel
theorem dX8_readReport_62 : decode cX8_readReport 62 = .ok (.iload_n 2, 1) := by decide +kernel
theorem dX8_readReport_63 : decode cX8_readReport 63 = .ok (.if_icmp .ge 62, 3) := by decide +kernel
theorem dX8_readReport_66 : decode cX8_readReport 66 = .ok (.aload_n 3, 1) := by decide +kernel
theorem dX8_readReport_67 : decode cX8_readReport 67 = .ok (.iload 4, 2) := by decide +kernel
theorem dX8_readReport_69 : decode cX8_readReport 69 = .ok (.iaload, 1) := by decide +kernel
theorem dX8_readReport_70 : decode cX8_readReport 70 = .ok (.ifCond .lt 16, 3) := by decide +kernel
theorem dX8_readReport_73 : decode cX8_readReport 73 = .ok (.aload_n 3, 1) := by decide +kernel
theorem dX8_readReport_74 : decode cX8_readReport 74 = .ok (.iload 4, 2) := by decide +kernel
theorem dX8_readReport_76 : decode cX8_readReport 76 = .ok (.iaload, 1) := by decide +kernel
theorem dX8_readReport_77 : decode cX8_readReport 77 = .ok (.bipush 6, 2) := by decide +kernel
theorem dX8_readReport_79 : decode cX8_readReport 79 = .ok (.if_icmp .ge 7, 3) := by decide +kernel
theorem dX8_readReport_82 : decode cX8_readReport 82 = .ok (.iconst 1, 1) := by decide +kernel
theorem dX8_readReport_83 : decode cX8_readReport 83 = .ok (.goto 4, 3) := by decide +kernel
theorem dX8_readReport_86 : decode cX8_readReport 86 = .ok (.iconst 0, 1) := by decide +kernel
theorem dX8_readReport_87 : decode cX8_readReport 87 = .ok (.istore 5, 2) := by decide +kernel
theorem dX8_readReport_89 : decode cX8_readReport 89 = .ok (.iload 5, 2) := by decide +kernel
theorem dX8_readReport_91 : decode cX8_readReport 91 = .ok (.ifCond .eq 19, 3) := by decide +kernel
theorem dX8_readReport_94 : decode cX8_readReport 94 = .ok (.aload_n 0, 1) := by decide +kernel
theorem dX8_readReport_95 : decode cX8_readReport 95 = .ok (.getfield 70, 3) := by decide +kernel
theorem dX8_readReport_98 : decode cX8_readReport 98 = .ok (.aload_n 3, 1) := by decide +kernel
theorem dX8_readReport_99 : decode cX8_readReport 99 = .ok (.iload 4, 2) := by decide +kernel
theorem dX8_readReport_101 : decode cX8_readReport 101 = .ok (.iconst 1, 1) := by decide +kernel
theorem dX8_readReport_102 : decode cX8_readReport 102 = .ok (.iadd, 1) := by decide +kernel
theorem dX8_readReport_103 : decode cX8_readReport 103 = .ok (.iaload, 1) := by decide +kernel
theorem dX8_readReport_104 : decode cX8_readReport 104 = .ok (.invokevirtual 220, 3) := by decide +kernel
theorem dX8_readReport_107 : decode cX8_readReport 107 = .ok (.ifCond .ne 12, 3) := by decide +kernel
theorem dX8_readReport_110 : decode cX8_readReport 110 = .ok (.aload_n 0, 1) := by decide +kernel
theorem dX8_readReport_111 : decode cX8_readReport 111 = .ok (.getfield 31, 3) := by decide +kernel
theorem dX8_readReport_114 : decode cX8_readReport 114 = .ok (.iconst 3, 1) := by decide +kernel
theorem dX8_readReport_115 : decode cX8_readReport 115 = .ok (.invokevirtual 125, 3) := by decide +kernel
theorem dX8_readReport_118 : decode cX8_readReport 118 = .ok (.ireturn, 1) := by decide +kernel
theorem dX8_readReport_119 : decode cX8_readReport 119 = .ok (.iinc 4 2, 3) := by decide +kernel
theorem dX8_readReport_122 : decode cX8_readReport 122 = .ok (.goto (-64), 3) := by decide +kernel
theorem dX8_readReport_125 : decode cX8_readReport 125 = .ok (.aload_n 0, 1) := by decide +kernel
theorem dX8_readReport_126 : decode cX8_readReport 126 = .ok (.getfield 45, 3) := by decide +kernel
theorem dX8_readReport_129 : decode cX8_readReport 129 = .ok (.aload_n 3, 1) := by decide +kernel
theorem dX8_readReport_130 : decode cX8_readReport 130 = .ok (.iload_n 2, 1) := by decide +kernel
theorem dX8_readReport_131 : decode cX8_readReport 131 = .ok (.invokevirtual 333, 3) := by decide +kernel
theorem dX8_readReport_134 : decode cX8_readReport 134 = .ok (.iconst 0, 1) := by decide +kernel
theorem dX8_readReport_135 : decode cX8_readReport 135 = .ok (.ireturn, 1) := by decide +kernel
def fX8_readReport_110  (a0 : Nat) (h : gz_H) : Option (Int32 × gz_H) :=
    gz_ck (gz_sh h a0 8 19) <|
    gz_br (h.2.2.2 a0 3) fun r_2 =>
    gz_ck (gz_sh h r_2 0 2) <|
    gz_b2 (fX0_answer r_2 (3 : Int32) h) fun y_4 h_3 =>
    some (y_4, h_3)
set_option maxRecDepth 100000 in
set_option maxHeartbeats 1000000 in
theorem sX8_readReport_110 {G : gz_G} {d l0 s0 : Nat} {Q : Int32 → gz_H → Prop} (a0 : Nat) (h : gz_H) (hf : gz_g (fX8_readReport_110  a0 h) Q) : gz_Ok G mX8_readReport (d + 2, l0, s0, 0, 0) 110 [.ref a0, .retAddr 0, .retAddr 0, .retAddr 0, .retAddr 0, .retAddr 0] [] h (gz_qi Q) := by
  unfold fX8_readReport_110 at hf
  refine gz_aload_n (pc := 110) dX8_readReport_110 rfl rfl ?_
  refine gz_gk hf (fun c_1 hf => ?_)
  refine gz_gb hf (fun r_2 er_2 hf => ?_)
  refine gz_getR (pc := 111) dX8_readReport_111 fl_RX8_31 rfl (gz_shs c_1) er_2 ?_
  refine gz_iconst (v := (3 : Int32)) (pc := 114) dX8_readReport_114 rfl ?_
  refine gz_gk hf (fun c_5 hf => ?_)
  refine gz_cVI (av := [.int (3 : Int32)]) (st := []) (pc := 115) dX8_readReport_115 kl_RX8_125 rfl (gz_shs c_5) rfl rfl (Nat.le_of_ble_eq_true rfl) (by show d + 1 + 0 + 1 ≤ d + 2; omega) (sX0_answer (d := d + 1) (gz_gc hf)) (fun y_4 h_3 hf => ?_)
  exact gz_irt (pc := 118) dX8_readReport_118 rfl rfl hf
def fX8_readReport_87 (k58 : Nat → Int32 → Nat → Int32 → gz_H → Option (Int32 × gz_H)) (a0 : Nat) (x2 : Int32) (a3 : Nat) (x4 : Int32) (w0 : Int32) (h : gz_H) : Option (Int32 × gz_H) :=
    if w0 = 0 then (
     fX8_readReport_110 a0 h
    ) else (
     gz_ck (gz_sh h a0 8 19) <|
     gz_br (h.2.2.2 a0 9) fun r_3 =>
     gz_ck (gz_inb h a3 10 (x4 + (1 : Int32))) <|
     gz_ck (gz_sh h r_3 1 4) <|
     gz_b2 (fX1_hasFactSet r_3 (h.2.1 a3 (x4 + (1 : Int32)).toNatClampNeg) h) fun y_6 h_5 =>
     if y_6 = 0 then (
      fX8_readReport_110 a0 h_5
     ) else (
      k58 a0 x2 a3 (x4 + 2) h_5
     )
    )
set_option maxRecDepth 100000 in
set_option maxHeartbeats 1000000 in
theorem sX8_readReport_87 {G : gz_G} {d l0 s0 : Nat} {Q : Int32 → gz_H → Prop} {k58 : Nat → Int32 → Nat → Int32 → gz_H → Option (Int32 × gz_H)} (hk58 : ∀ (a0 : Nat) (x2 : Int32) (a3 : Nat) (x4 : Int32) (h : gz_H), gz_g (k58 a0 x2 a3 x4 h) Q → gz_Ok G mX8_readReport (d + 2, l0, s0, 0, 0) 58 [.ref a0, .retAddr 0, .int x2, .ref a3, .int x4, .retAddr 0] [] h (gz_qi Q)) (a0 : Nat) (x2 : Int32) (a3 : Nat) (x4 : Int32) (w0 : Int32) (h : gz_H) (hf : gz_g (fX8_readReport_87 k58 a0 x2 a3 x4 w0 h) Q) : gz_Ok G mX8_readReport (d + 2, l0, s0, 0, 0) 87 [.ref a0, .retAddr 0, .int x2, .ref a3, .int x4, .retAddr 0] [.int w0] h (gz_qi Q) := by
  unfold fX8_readReport_87 at hf
  refine gz_istore (lv := [.ref a0, .retAddr 0, .int x2, .ref a3, .int x4, .int w0]) (pc := 87) dX8_readReport_87 (by decide) rfl ?_
  refine gz_iload (pc := 89) dX8_readReport_89 rfl ?_
  refine gz_if_eq (tgt := 110) (pc := 91) dX8_readReport_91 rfl (fun c_1 => ?_) (fun c_1 => ?_)
  · have hf := gz_gT hf c_1
    refine gz_fg (lv := [.ref a0, .retAddr 0, .retAddr 0, .retAddr 0, .retAddr 0, .retAddr 0]) ⟨Or.inr rfl, ⟨Or.inl rfl, ⟨Or.inl rfl, ⟨Or.inl rfl, ⟨Or.inl rfl, ⟨Or.inl rfl, trivial⟩⟩⟩⟩⟩⟩ ?_
    exact sX8_readReport_110 a0 h hf
  · have hf := gz_gF hf c_1
    refine gz_aload_n (pc := 94) dX8_readReport_94 rfl rfl ?_
    refine gz_gk hf (fun c_2 hf => ?_)
    refine gz_gb hf (fun r_3 er_3 hf => ?_)
    refine gz_getR (pc := 95) dX8_readReport_95 fl_RX8_70 rfl (gz_shs c_2) er_3 ?_
    refine gz_aload_n (pc := 98) dX8_readReport_98 rfl rfl ?_
    refine gz_iload (pc := 99) dX8_readReport_99 rfl ?_
    refine gz_iconst (v := (1 : Int32)) (pc := 101) dX8_readReport_101 rfl ?_
    refine gz_iadd (pc := 102) dX8_readReport_102 ?_
    refine gz_gk hf (fun c_4 hf => ?_)
    refine gz_iald (pc := 103) dX8_readReport_103 c_4 ?_
    refine gz_gk hf (fun c_7 hf => ?_)
    refine gz_cVI (av := [.int (h.2.1 a3 (x4 + (1 : Int32)).toNatClampNeg)]) (st := []) (pc := 104) dX8_readReport_104 kl_RX8_220 rfl (gz_shs c_7) rfl rfl (Nat.le_of_ble_eq_true rfl) (by show d + 1 + 0 + 1 ≤ d + 2; omega) (sX1_hasFactSet (d := d + 1) (gz_gc hf)) (fun y_6 h_5 hf => ?_)
    refine gz_if_ne (tgt := 119) (pc := 107) dX8_readReport_107 rfl (fun c_8 => ?_) (fun c_8 => ?_)
    · have hf := gz_gF hf c_8
      refine gz_iinc (v := x4 + 2) (lv := [.ref a0, .retAddr 0, .int x2, .ref a3, .int (x4 + 2), .int w0]) (pc := 119) dX8_readReport_119 rfl rfl (by decide) rfl ?_
      refine gz_goto (tgt := 58) (pc := 122) dX8_readReport_122 rfl ?_
      refine gz_fg (lv := [.ref a0, .retAddr 0, .int x2, .ref a3, .int (x4 + 2), .retAddr 0]) ⟨Or.inr rfl, ⟨Or.inl rfl, ⟨Or.inr rfl, ⟨Or.inr rfl, ⟨Or.inr rfl, ⟨Or.inl rfl, trivial⟩⟩⟩⟩⟩⟩ ?_
      exact hk58 a0 x2 a3 (x4 + 2) h_5 hf
    · have hf := gz_gT hf c_8
      refine gz_fg (lv := [.ref a0, .retAddr 0, .retAddr 0, .retAddr 0, .retAddr 0, .retAddr 0]) ⟨Or.inr rfl, ⟨Or.inl rfl, ⟨Or.inl rfl, ⟨Or.inl rfl, ⟨Or.inl rfl, ⟨Or.inl rfl, trivial⟩⟩⟩⟩⟩⟩ ?_
      exact sX8_readReport_110 a0 h_5 hf
def fX8_readReport_86 (k58 : Nat → Int32 → Nat → Int32 → gz_H → Option (Int32 × gz_H)) (a0 : Nat) (x2 : Int32) (a3 : Nat) (x4 : Int32) (h : gz_H) : Option (Int32 × gz_H) :=
    fX8_readReport_87 k58 a0 x2 a3 x4 (0 : Int32) h
set_option maxRecDepth 100000 in
set_option maxHeartbeats 1000000 in
theorem sX8_readReport_86 {G : gz_G} {d l0 s0 : Nat} {Q : Int32 → gz_H → Prop} {k58 : Nat → Int32 → Nat → Int32 → gz_H → Option (Int32 × gz_H)} (hk58 : ∀ (a0 : Nat) (x2 : Int32) (a3 : Nat) (x4 : Int32) (h : gz_H), gz_g (k58 a0 x2 a3 x4 h) Q → gz_Ok G mX8_readReport (d + 2, l0, s0, 0, 0) 58 [.ref a0, .retAddr 0, .int x2, .ref a3, .int x4, .retAddr 0] [] h (gz_qi Q)) (a0 : Nat) (x2 : Int32) (a3 : Nat) (x4 : Int32) (h : gz_H) (hf : gz_g (fX8_readReport_86 k58 a0 x2 a3 x4 h) Q) : gz_Ok G mX8_readReport (d + 2, l0, s0, 0, 0) 86 [.ref a0, .retAddr 0, .int x2, .ref a3, .int x4, .retAddr 0] [] h (gz_qi Q) := by
  unfold fX8_readReport_86 at hf
  refine gz_iconst (v := (0 : Int32)) (pc := 86) dX8_readReport_86 rfl ?_
  exact sX8_readReport_87 hk58 a0 x2 a3 x4 (0 : Int32) h hf
def fX8_readReport_58  : Nat → Nat → Int32 → Nat → Int32 → gz_H → Option (Int32 × gz_H)
  | 0, _, _, _, _, _ => none
  | n + 1, a0, x2, a3, x4, h =>
    if x2 ≤ (x4 + (1 : Int32)) then (
     gz_ck (gz_sh h a0 8 19) <|
     gz_br (h.2.2.2 a0 5) fun r_3 =>
     gz_ck (gz_sh h r_3 6 2) <|
     gz_b2 (fX6_readPairs r_3 a3 x2 h) fun _ h_4 =>
     some ((0 : Int32), h_4)
    ) else (
     gz_ck (gz_inb h a3 10 x4) <|
     if (h.2.1 a3 x4.toNatClampNeg) < 0 then (
      fX8_readReport_86 (fun z0 z1 z2 z3 zh => fX8_readReport_58 n z0 z1 z2 z3 zh) a0 x2 a3 x4 h
     ) else (
      if (6 : Int32) ≤ (h.2.1 a3 x4.toNatClampNeg) then (
       fX8_readReport_86 (fun z0 z1 z2 z3 zh => fX8_readReport_58 n z0 z1 z2 z3 zh) a0 x2 a3 x4 h
      ) else (
       fX8_readReport_87 (fun z0 z1 z2 z3 zh => fX8_readReport_58 n z0 z1 z2 z3 zh) a0 x2 a3 x4 (1 : Int32) h
      )
     )
    )
set_option maxRecDepth 100000 in
set_option maxHeartbeats 1000000 in
theorem sX8_readReport_58 {G : gz_G} {d l0 s0 : Nat} {Q : Int32 → gz_H → Prop} : ∀ (n : Nat) (a0 : Nat) (x2 : Int32) (a3 : Nat) (x4 : Int32) (h : gz_H), gz_g (fX8_readReport_58  n a0 x2 a3 x4 h) Q → gz_Ok G mX8_readReport (d + 2, l0, s0, 0, 0) 58 [.ref a0, .retAddr 0, .int x2, .ref a3, .int x4, .retAddr 0] [] h (gz_qi Q) := by
  intro n
  induction n with
  | zero => intro a0 x2 a3 x4 h hf; exact False.elim hf
  | succ n ih =>
    intro a0 x2 a3 x4 h hf
    rw [fX8_readReport_58] at hf
    refine gz_iload (pc := 58) dX8_readReport_58 rfl ?_
    refine gz_iconst (v := (1 : Int32)) (pc := 60) dX8_readReport_60 rfl ?_
    refine gz_iadd (pc := 61) dX8_readReport_61 ?_
    refine gz_iload_n (pc := 62) dX8_readReport_62 rfl rfl ?_
    refine gz_icmp_ge (tgt := 125) (pc := 63) dX8_readReport_63 rfl (fun c_1 => ?_) (fun c_1 => ?_)
    · have hf := gz_gT hf c_1
      refine gz_aload_n (pc := 125) dX8_readReport_125 rfl rfl ?_
      refine gz_gk hf (fun c_2 hf => ?_)
      refine gz_gb hf (fun r_3 er_3 hf => ?_)
      refine gz_getR (pc := 126) dX8_readReport_126 fl_RX8_45 rfl (gz_shs c_2) er_3 ?_
      refine gz_aload_n (pc := 129) dX8_readReport_129 rfl rfl ?_
      refine gz_iload_n (pc := 130) dX8_readReport_130 rfl rfl ?_
      refine gz_gk hf (fun c_6 hf => ?_)
      refine gz_cVV (av := [.ref a3, .int x2]) (st := []) (pc := 131) dX8_readReport_131 kl_RX8_333 rfl (gz_shs c_6) rfl rfl (Nat.le_of_ble_eq_true rfl) (by show d + 0 + 1 + 1 ≤ d + 2; omega) (sX6_readPairs (d := d + 0) (gz_gc hf)) (fun _ h_4 hf => ?_)
      refine gz_iconst (v := (0 : Int32)) (pc := 134) dX8_readReport_134 rfl ?_
      exact gz_irt (pc := 135) dX8_readReport_135 rfl rfl hf
    · have hf := gz_gF hf c_1
      refine gz_aload_n (pc := 66) dX8_readReport_66 rfl rfl ?_
      refine gz_iload (pc := 67) dX8_readReport_67 rfl ?_
      refine gz_gk hf (fun c_7 hf => ?_)
      refine gz_iald (pc := 69) dX8_readReport_69 c_7 ?_
      refine gz_if_lt (tgt := 86) (pc := 70) dX8_readReport_70 rfl (fun c_8 => ?_) (fun c_8 => ?_)
      · have hf := gz_gT hf c_8
        exact sX8_readReport_86 ih a0 x2 a3 x4 h hf
      · have hf := gz_gF hf c_8
        refine gz_aload_n (pc := 73) dX8_readReport_73 rfl rfl ?_
        refine gz_iload (pc := 74) dX8_readReport_74 rfl ?_
        refine gz_iald (pc := 76) dX8_readReport_76 c_7 ?_
        refine gz_bipush (v := (6 : Int32)) (pc := 77) dX8_readReport_77 rfl ?_
        refine gz_icmp_ge (tgt := 86) (pc := 79) dX8_readReport_79 rfl (fun c_9 => ?_) (fun c_9 => ?_)
        · have hf := gz_gT hf c_9
          exact sX8_readReport_86 ih a0 x2 a3 x4 h hf
        · have hf := gz_gF hf c_9
          refine gz_iconst (v := (1 : Int32)) (pc := 82) dX8_readReport_82 rfl ?_
          refine gz_goto (tgt := 87) (pc := 83) dX8_readReport_83 rfl ?_
          exact sX8_readReport_87 ih a0 x2 a3 x4 (1 : Int32) h hf
def fX8_readReport_0  (a0 : Nat) (x1 : Int32) (h : gz_H) : Option (Int32 × gz_H) :=
    gz_ck (gz_sh h a0 8 19) <|
    gz_br (h.2.2.2 a0 0) fun r_2 =>
    gz_ck (gz_sh h r_2 7 3) <|
    gz_b2 (fX7_has r_2 x1 h) fun y_4 h_3 =>
    if y_4 = 0 then (
     gz_ck (gz_sh h_3 a0 8 19) <|
     gz_br (h_3.2.2.2 a0 3) fun r_21 =>
     gz_ck (gz_sh h_3 r_21 0 2) <|
     gz_b2 (fX0_answer r_21 (1 : Int32) h_3) fun y_23 h_22 =>
     some (y_23, h_22)
    ) else (
     gz_ck (gz_sh h_3 a0 8 19) <|
     gz_br (h_3.2.2.2 a0 0) fun r_8 =>
     gz_ck (gz_sh h_3 r_8 7 3) <|
     gz_br (h_3.2.2.2 r_8 2) fun r_10 =>
     gz_ck (gz_inb h_3 r_10 10 x1) <|
     gz_br (h_3.2.2.2 r_8 1) fun r_12 =>
     gz_ck (gz_inb h_3 r_12 13 x1) <|
     gz_br (h_3.2.2.2 r_12 x1.toNatClampNeg) fun r_14 =>
     if ((h_3.2.1 r_10 x1.toNatClampNeg) - (h_3.2.1 r_10 x1.toNatClampNeg) / (2 : Int32) * (2 : Int32)) = 0 then (
      fX8_readReport_58 gz_fu a0 (h_3.2.1 r_10 x1.toNatClampNeg) r_14 (0 : Int32) h_3
     ) else (
      gz_br (h_3.2.2.2 a0 3) fun r_16 =>
      gz_ck (gz_sh h_3 r_16 0 2) <|
      gz_b2 (fX0_answer r_16 (5 : Int32) h_3) fun y_18 h_17 =>
      some (y_18, h_17)
     )
    )
set_option maxRecDepth 100000 in
set_option maxHeartbeats 1000000 in
theorem sX8_readReport_0 {G : gz_G} {d l0 s0 : Nat} {Q : Int32 → gz_H → Prop} (a0 : Nat) (x1 : Int32) (h : gz_H) (hf : gz_g (fX8_readReport_0  a0 x1 h) Q) : gz_Ok G mX8_readReport (d + 2, l0, s0, 0, 0) 0 [.ref a0, .int x1, .retAddr 0, .retAddr 0, .retAddr 0, .retAddr 0] [] h (gz_qi Q) := by
  unfold fX8_readReport_0 at hf
  refine gz_aload_n (pc := 0) dX8_readReport_0 rfl rfl ?_
  refine gz_gk hf (fun c_1 hf => ?_)
  refine gz_gb hf (fun r_2 er_2 hf => ?_)
  refine gz_getR (pc := 1) dX8_readReport_1 fl_RX8_14 rfl (gz_shs c_1) er_2 ?_
  refine gz_iload_n (pc := 4) dX8_readReport_4 rfl rfl ?_
  refine gz_gk hf (fun c_5 hf => ?_)
  refine gz_cVI (av := [.int x1]) (st := []) (pc := 5) dX8_readReport_5 kl_RX8_122 rfl (gz_shs c_5) rfl rfl (Nat.le_of_ble_eq_true rfl) (by show d + 1 + 0 + 1 ≤ d + 2; omega) (sX7_has (d := d + 1) (gz_gc hf)) (fun y_4 h_3 hf => ?_)
  refine gz_if_ne (tgt := 20) (pc := 8) dX8_readReport_8 rfl (fun c_6 => ?_) (fun c_6 => ?_)
  · have hf := gz_gF hf c_6
    refine gz_aload_n (pc := 20) dX8_readReport_20 rfl rfl ?_
    refine gz_gk hf (fun c_7 hf => ?_)
    refine gz_gb hf (fun r_8 er_8 hf => ?_)
    refine gz_getR (pc := 21) dX8_readReport_21 fl_RX8_14 rfl (gz_shs c_7) er_8 ?_
    refine gz_gk hf (fun c_9 hf => ?_)
    refine gz_gb hf (fun r_10 er_10 hf => ?_)
    refine gz_getR (pc := 24) dX8_readReport_24 fl_RX8_129 rfl (gz_shs c_9) er_10 ?_
    refine gz_iload_n (pc := 27) dX8_readReport_27 rfl rfl ?_
    refine gz_gk hf (fun c_11 hf => ?_)
    refine gz_iald (pc := 28) dX8_readReport_28 c_11 ?_
    refine gz_istore_n (lv := [.ref a0, .int x1, .int (h_3.2.1 r_10 x1.toNatClampNeg), .retAddr 0, .retAddr 0, .retAddr 0]) (pc := 29) dX8_readReport_29 rfl (by decide) rfl ?_
    refine gz_aload_n (pc := 30) dX8_readReport_30 rfl rfl ?_
    refine gz_getR (pc := 31) dX8_readReport_31 fl_RX8_14 rfl (gz_shs c_7) er_8 ?_
    refine gz_gb hf (fun r_12 er_12 hf => ?_)
    refine gz_getR (pc := 34) dX8_readReport_34 fl_RX8_111 rfl (gz_shs c_9) er_12 ?_
    refine gz_iload_n (pc := 37) dX8_readReport_37 rfl rfl ?_
    refine gz_gk hf (fun c_13 hf => ?_)
    refine gz_gb hf (fun r_14 er_14 hf => ?_)
    refine gz_aald (Or.inr (Or.inr rfl)) (pc := 38) dX8_readReport_38 c_13 er_14 ?_
    refine gz_astore_n (lv := [.ref a0, .int x1, .int (h_3.2.1 r_10 x1.toNatClampNeg), .ref r_14, .retAddr 0, .retAddr 0]) (pc := 39) dX8_readReport_39 rfl (by decide) rfl ?_
    refine gz_iload_n (pc := 40) dX8_readReport_40 rfl rfl ?_
    refine gz_iconst (v := (2 : Int32)) (pc := 41) dX8_readReport_41 rfl ?_
    refine gz_irem (pc := 42) dX8_readReport_42 (by decide) ?_
    refine gz_if_eq (tgt := 55) (pc := 43) dX8_readReport_43 rfl (fun c_15 => ?_) (fun c_15 => ?_)
    · have hf := gz_gT hf c_15
      refine gz_iconst (v := (0 : Int32)) (pc := 55) dX8_readReport_55 rfl ?_
      refine gz_istore (lv := [.ref a0, .int x1, .int (h_3.2.1 r_10 x1.toNatClampNeg), .ref r_14, .int (0 : Int32), .retAddr 0]) (pc := 56) dX8_readReport_56 (by decide) rfl ?_
      refine gz_fg (lv := [.ref a0, .retAddr 0, .int (h_3.2.1 r_10 x1.toNatClampNeg), .ref r_14, .int (0 : Int32), .retAddr 0]) ⟨Or.inr rfl, ⟨Or.inl rfl, ⟨Or.inr rfl, ⟨Or.inr rfl, ⟨Or.inr rfl, ⟨Or.inl rfl, trivial⟩⟩⟩⟩⟩⟩ ?_
      exact sX8_readReport_58 gz_fu a0 (h_3.2.1 r_10 x1.toNatClampNeg) r_14 (0 : Int32) h_3 hf
    · have hf := gz_gF hf c_15
      refine gz_aload_n (pc := 46) dX8_readReport_46 rfl rfl ?_
      refine gz_gb hf (fun r_16 er_16 hf => ?_)
      refine gz_getR (pc := 47) dX8_readReport_47 fl_RX8_31 rfl (gz_shs c_7) er_16 ?_
      refine gz_iconst (v := (5 : Int32)) (pc := 50) dX8_readReport_50 rfl ?_
      refine gz_gk hf (fun c_19 hf => ?_)
      refine gz_cVI (av := [.int (5 : Int32)]) (st := []) (pc := 51) dX8_readReport_51 kl_RX8_125 rfl (gz_shs c_19) rfl rfl (Nat.le_of_ble_eq_true rfl) (by show d + 1 + 0 + 1 ≤ d + 2; omega) (sX0_answer (d := d + 1) (gz_gc hf)) (fun y_18 h_17 hf => ?_)
      exact gz_irt (pc := 54) dX8_readReport_54 rfl rfl hf
  · have hf := gz_gT hf c_6
    refine gz_aload_n (pc := 11) dX8_readReport_11 rfl rfl ?_
    refine gz_gk hf (fun c_20 hf => ?_)
    refine gz_gb hf (fun r_21 er_21 hf => ?_)
    refine gz_getR (pc := 12) dX8_readReport_12 fl_RX8_31 rfl (gz_shs c_20) er_21 ?_
    refine gz_iconst (v := (1 : Int32)) (pc := 15) dX8_readReport_15 rfl ?_
    refine gz_gk hf (fun c_24 hf => ?_)
    refine gz_cVI (av := [.int (1 : Int32)]) (st := []) (pc := 16) dX8_readReport_16 kl_RX8_125 rfl (gz_shs c_24) rfl rfl (Nat.le_of_ble_eq_true rfl) (by show d + 1 + 0 + 1 ≤ d + 2; omega) (sX0_answer (d := d + 1) (gz_gc hf)) (fun y_23 h_22 hf => ?_)
    exact gz_irt (pc := 19) dX8_readReport_19 rfl rfl hf
def fX8_readReport (a0 : Nat) (x1 : Int32) (h : gz_H) : Option (Int32 × gz_H) := fX8_readReport_0 a0 x1 h
theorem sX8_readReport {G : gz_G} {d : Nat} {a0 : Nat} {x1 : Int32} {h : gz_H} {Q : Int32 → gz_H → Prop} (hf : gz_g (fX8_readReport a0 x1 h) Q) : gz_Cl G mX8_readReport (d + 2) 0 0 [.ref a0, .int x1] h (gz_qi Q) := gz_cl_of (lo := [.ref a0, .int x1, .retAddr 0, .retAddr 0, .retAddr 0, .retAddr 0]) (by decide) rfl rfl (Nat.le_of_ble_eq_true rfl) (sX8_readReport_0 a0 x1 h hf)
theorem dX8_fittingRows_0 : decode cX8_fittingRows 0 = .ok (.aload_n 2, 1) := by decide +kernel
theorem dX8_fittingRows_1 : decode cX8_fittingRows 1 = .ok (.aload_n 0, 1) := by decide +kernel
theorem dX8_fittingRows_2 : decode cX8_fittingRows 2 = .ok (.aload_n 0, 1) := by decide +kernel
theorem dX8_fittingRows_3 : decode cX8_fittingRows 3 = .ok (.getfield 158, 3) := by decide +kernel
theorem dX8_fittingRows_6 : decode cX8_fittingRows 6 = .ok (.aload_n 1, 1) := by decide +kernel
theorem dX8_fittingRows_7 : decode cX8_fittingRows 7 = .ok (.getfield 172, 3) := by decide +kernel
theorem dX8_fittingRows_10 : decode cX8_fittingRows 10 = .ok (.invokevirtual 279, 3) := by decide +kernel
theorem dX8_fittingRows_13 : decode cX8_fittingRows 13 = .ok (.ifCond .eq 7, 3) := by decide +kernel
theorem dX8_fittingRows_16 : decode cX8_fittingRows 16 = .ok (.iconst 1, 1) := by decide +kernel
theorem dX8_fittingRows_17 : decode cX8_fittingRows 17 = .ok (.goto 4, 3) := by decide +kernel
theorem dX8_fittingRows_20 : decode cX8_fittingRows 20 = .ok (.iconst 0, 1) := by decide +kernel
theorem dX8_fittingRows_21 : decode cX8_fittingRows 21 = .ok (.istore 4, 2) := by decide +kernel
theorem dX8_fittingRows_23 : decode cX8_fittingRows 23 = .ok (.iload_n 3, 1) := by decide +kernel
theorem dX8_fittingRows_24 : decode cX8_fittingRows 24 = .ok (.ifCond .gt 6, 3) := by decide +kernel
theorem dX8_fittingRows_27 : decode cX8_fittingRows 27 = .ok (.iload 4, 2) := by decide +kernel
theorem dX8_fittingRows_29 : decode cX8_fittingRows 29 = .ok (.ireturn, 1) := by decide +kernel
theorem dX8_fittingRows_30 : decode cX8_fittingRows 30 = .ok (.iconst 0, 1) := by decide +kernel
theorem dX8_fittingRows_31 : decode cX8_fittingRows 31 = .ok (.istore 5, 2) := by decide +kernel
theorem dX8_fittingRows_33 : decode cX8_fittingRows 33 = .ok (.iload 5, 2) := by decide +kernel
theorem dX8_fittingRows_35 : decode cX8_fittingRows 35 = .ok (.aload_n 1, 1) := by decide +kernel
theorem dX8_fittingRows_36 : decode cX8_fittingRows 36 = .ok (.getfield 245, 3) := by decide +kernel
theorem dX8_fittingRows_39 : decode cX8_fittingRows 39 = .ok (.if_icmp .ge 47, 3) := by decide +kernel
theorem dX8_fittingRows_42 : decode cX8_fittingRows 42 = .ok (.aload_n 0, 1) := by decide +kernel
theorem dX8_fittingRows_43 : decode cX8_fittingRows 43 = .ok (.iload 5, 2) := by decide +kernel
theorem dX8_fittingRows_45 : decode cX8_fittingRows 45 = .ok (.invokevirtual 385, 3) := by decide +kernel
theorem dX8_fittingRows_48 : decode cX8_fittingRows 48 = .ok (.ifCond .eq 6, 3) := by decide +kernel
theorem dX8_fittingRows_51 : decode cX8_fittingRows 51 = .ok (.goto 29, 3) := by decide +kernel
theorem dX8_fittingRows_54 : decode cX8_fittingRows 54 = .ok (.aload_n 0, 1) := by decide +kernel
theorem dX8_fittingRows_55 : decode cX8_fittingRows 55 = .ok (.iload 5, 2) := by decide +kernel
theorem dX8_fittingRows_57 : decode cX8_fittingRows 57 = .ok (.invokevirtual 386, 3) := by decide +kernel
theorem dX8_fittingRows_60 : decode cX8_fittingRows 60 = .ok (.pop, 1) := by decide +kernel
theorem dX8_fittingRows_61 : decode cX8_fittingRows 61 = .ok (.iload 4, 2) := by decide +kernel
theorem dX8_fittingRows_63 : decode cX8_fittingRows 63 = .ok (.aload_n 0, 1) := by decide +kernel
theorem dX8_fittingRows_64 : decode cX8_fittingRows 64 = .ok (.aload_n 1, 1) := by decide +kernel
theorem dX8_fittingRows_65 : decode cX8_fittingRows 65 = .ok (.aload_n 2, 1) := by decide +kernel
theorem dX8_fittingRows_66 : decode cX8_fittingRows 66 = .ok (.iload_n 3, 1) := by decide +kernel
theorem dX8_fittingRows_67 : decode cX8_fittingRows 67 = .ok (.iconst 1, 1) := by decide +kernel
theorem dX8_fittingRows_68 : decode cX8_fittingRows 68 = .ok (.isub, 1) := by decide +kernel
theorem dX8_fittingRows_69 : decode cX8_fittingRows 69 = .ok (.invokestatic 275, 3) := by decide +kernel
theorem dX8_fittingRows_72 : decode cX8_fittingRows 72 = .ok (.iadd, 1) := by decide +kernel
theorem dX8_fittingRows_73 : decode cX8_fittingRows 73 = .ok (.istore 4, 2) := by decide +kernel
theorem dX8_fittingRows_75 : decode cX8_fittingRows 75 = .ok (.aload_n 0, 1) := by decide +kernel
theorem dX8_fittingRows_76 : decode cX8_fittingRows 76 = .ok (.invokevirtual 389, 3) := by decide +kernel
theorem dX8_fittingRows_79 : decode cX8_fittingRows 79 = .ok (.pop, 1) := by decide +kernel
theorem dX8_fittingRows_80 : decode cX8_fittingRows 80 = .ok (.iinc 5 1, 3) := by decide +kernel
theorem dX8_fittingRows_83 : decode cX8_fittingRows 83 = .ok (.goto (-50), 3) := by decide +kernel
theorem dX8_fittingRows_86 : decode cX8_fittingRows 86 = .ok (.iload 4, 2) := by decide +kernel
theorem dX8_fittingRows_88 : decode cX8_fittingRows 88 = .ok (.ireturn, 1) := by decide +kernel
def fX8_fittingRows_80 (self : Nat → Nat → Nat → Int32 → gz_H → Option (Int32 × gz_H)) (k33 : Nat → Nat → Nat → Int32 → Int32 → Int32 → gz_H → Option (Int32 × gz_H)) (a0 : Nat) (a1 : Nat) (a2 : Nat) (x3 : Int32) (x4 : Int32) (x5 : Int32) (h : gz_H) : Option (Int32 × gz_H) :=
    k33 a0 a1 a2 x3 x4 (x5 + 1) h
set_option maxRecDepth 100000 in
set_option maxHeartbeats 1000000 in
theorem sX8_fittingRows_80 {G : gz_G} {dd l0 s0 : Nat} {Q : Int32 → gz_H → Prop} {self : Nat → Nat → Nat → Int32 → gz_H → Option (Int32 × gz_H)} {k33 : Nat → Nat → Nat → Int32 → Int32 → Int32 → gz_H → Option (Int32 × gz_H)} (hself : ∀ (v0 : Nat) (v1 : Nat) (v2 : Nat) (v3 : Int32) (h : gz_H) {Q : Int32 → gz_H → Prop}, gz_g (self v0 v1 v2 v3 h) Q → gz_Cl G mX8_fittingRows dd 0 0 [.ref v0, .ref v1, .ref v2, .int v3] h (gz_qi Q)) (hdd : 3 ≤ dd) (hk33 : ∀ (a0 : Nat) (a1 : Nat) (a2 : Nat) (x3 : Int32) (x4 : Int32) (x5 : Int32) (h : gz_H), gz_g (k33 a0 a1 a2 x3 x4 x5 h) Q → gz_Ok G mX8_fittingRows (dd + 1, l0, s0, 0, 0) 33 [.ref a0, .ref a1, .ref a2, .int x3, .int x4, .int x5] [] h (gz_qi Q)) (a0 : Nat) (a1 : Nat) (a2 : Nat) (x3 : Int32) (x4 : Int32) (x5 : Int32) (h : gz_H) (hf : gz_g (fX8_fittingRows_80 self k33 a0 a1 a2 x3 x4 x5 h) Q) : gz_Ok G mX8_fittingRows (dd + 1, l0, s0, 0, 0) 80 [.ref a0, .ref a1, .ref a2, .int x3, .int x4, .int x5] [] h (gz_qi Q) := by
  unfold fX8_fittingRows_80 at hf
  refine gz_iinc (v := x5 + 1) (lv := [.ref a0, .ref a1, .ref a2, .int x3, .int x4, .int (x5 + 1)]) (pc := 80) dX8_fittingRows_80 rfl rfl (by decide) rfl ?_
  refine gz_goto (tgt := 33) (pc := 83) dX8_fittingRows_83 rfl ?_
  exact hk33 a0 a1 a2 x3 x4 (x5 + 1) h hf
def fX8_fittingRows_33 (self : Nat → Nat → Nat → Int32 → gz_H → Option (Int32 × gz_H)) : Nat → Nat → Nat → Nat → Int32 → Int32 → Int32 → gz_H → Option (Int32 × gz_H)
  | 0, _, _, _, _, _, _, _ => none
  | n + 1, a0, a1, a2, x3, x4, x5, h =>
    gz_ck (gz_sh h a1 1 4) <|
    if (h.2.1 a1 2) ≤ x5 then (
     some (x4, h)
    ) else (
     gz_ck (gz_sh h a0 2 6) <|
     gz_b2 (fX2_hasFact a0 x5 h) fun y_4 h_3 =>
     if y_4 = 0 then (
      gz_ck (gz_sh h_3 a0 2 6) <|
      gz_b2 (fX2_take a0 x5 h_3) fun y_8 h_7 =>
      gz_b2 (self a0 a1 a2 (x3 - (1 : Int32)) h_7) fun y_11 h_10 =>
      gz_ck (gz_sh h_10 a0 2 6) <|
      gz_b2 (fX2_loseNewest a0 h_10) fun y_13 h_12 =>
      fX8_fittingRows_80 self (fun z0 z1 z2 z3 z4 z5 zh => fX8_fittingRows_33 self n z0 z1 z2 z3 z4 z5 zh) a0 a1 a2 x3 (x4 + y_11) x5 h_12
     ) else (
      fX8_fittingRows_80 self (fun z0 z1 z2 z3 z4 z5 zh => fX8_fittingRows_33 self n z0 z1 z2 z3 z4 z5 zh) a0 a1 a2 x3 x4 x5 h_3
     )
    )
set_option maxRecDepth 100000 in
set_option maxHeartbeats 1000000 in
theorem sX8_fittingRows_33 {G : gz_G} {dd l0 s0 : Nat} {Q : Int32 → gz_H → Prop} {self : Nat → Nat → Nat → Int32 → gz_H → Option (Int32 × gz_H)} (hself : ∀ (v0 : Nat) (v1 : Nat) (v2 : Nat) (v3 : Int32) (h : gz_H) {Q : Int32 → gz_H → Prop}, gz_g (self v0 v1 v2 v3 h) Q → gz_Cl G mX8_fittingRows dd 0 0 [.ref v0, .ref v1, .ref v2, .int v3] h (gz_qi Q)) (hdd : 3 ≤ dd) : ∀ (n : Nat) (a0 : Nat) (a1 : Nat) (a2 : Nat) (x3 : Int32) (x4 : Int32) (x5 : Int32) (h : gz_H), gz_g (fX8_fittingRows_33 self n a0 a1 a2 x3 x4 x5 h) Q → gz_Ok G mX8_fittingRows (dd + 1, l0, s0, 0, 0) 33 [.ref a0, .ref a1, .ref a2, .int x3, .int x4, .int x5] [] h (gz_qi Q) := by
  intro n
  induction n with
  | zero => intro a0 a1 a2 x3 x4 x5 h hf; exact False.elim hf
  | succ n ih =>
    intro a0 a1 a2 x3 x4 x5 h hf
    rw [fX8_fittingRows_33] at hf
    refine gz_iload (pc := 33) dX8_fittingRows_33 rfl ?_
    refine gz_aload_n (pc := 35) dX8_fittingRows_35 rfl rfl ?_
    refine gz_gk hf (fun c_1 hf => ?_)
    refine gz_getI (pc := 36) dX8_fittingRows_36 fl_RX8_245 rfl (gz_shs c_1) ?_
    refine gz_icmp_ge (tgt := 86) (pc := 39) dX8_fittingRows_39 rfl (fun c_2 => ?_) (fun c_2 => ?_)
    · have hf := gz_gT hf c_2
      refine gz_iload (pc := 86) dX8_fittingRows_86 rfl ?_
      exact gz_irt (pc := 88) dX8_fittingRows_88 rfl rfl hf
    · have hf := gz_gF hf c_2
      refine gz_aload_n (pc := 42) dX8_fittingRows_42 rfl rfl ?_
      refine gz_iload (pc := 43) dX8_fittingRows_43 rfl ?_
      refine gz_gk hf (fun c_5 hf => ?_)
      refine gz_cVI (av := [.int x5]) (st := []) (pc := 45) dX8_fittingRows_45 kl_RX8_385 rfl (gz_shs c_5) rfl rfl (Nat.le_of_ble_eq_true rfl) (by show dd - 1 + 1 + 1 ≤ dd + 1; omega) (sX2_hasFact (d := dd - 1) (gz_gc hf)) (fun y_4 h_3 hf => ?_)
      refine gz_if_eq (tgt := 54) (pc := 48) dX8_fittingRows_48 rfl (fun c_6 => ?_) (fun c_6 => ?_)
      · have hf := gz_gT hf c_6
        refine gz_aload_n (pc := 54) dX8_fittingRows_54 rfl rfl ?_
        refine gz_iload (pc := 55) dX8_fittingRows_55 rfl ?_
        refine gz_gk hf (fun c_9 hf => ?_)
        refine gz_cVI (av := [.int x5]) (st := []) (pc := 57) dX8_fittingRows_57 kl_RX8_386 rfl (gz_shs c_9) rfl rfl (Nat.le_of_ble_eq_true rfl) (by show dd - 1 + 1 + 1 ≤ dd + 1; omega) (sX2_take (d := dd - 1) (gz_gc hf)) (fun y_8 h_7 hf => ?_)
        refine gz_pop (pc := 60) dX8_fittingRows_60 rfl ?_
        refine gz_iload (pc := 61) dX8_fittingRows_61 rfl ?_
        refine gz_aload_n (pc := 63) dX8_fittingRows_63 rfl rfl ?_
        refine gz_aload_n (pc := 64) dX8_fittingRows_64 rfl rfl ?_
        refine gz_aload_n (pc := 65) dX8_fittingRows_65 rfl rfl ?_
        refine gz_iload_n (pc := 66) dX8_fittingRows_66 rfl rfl ?_
        refine gz_iconst (v := (1 : Int32)) (pc := 67) dX8_fittingRows_67 rfl ?_
        refine gz_isub (pc := 68) dX8_fittingRows_68 ?_
        refine gz_cSI (av := [.ref a0, .ref a1, .ref a2, .int (x3 - (1 : Int32))]) (st := [.int x4]) (pc := 69) dX8_fittingRows_69 kl_RX8_275 rfl rfl (Nat.le_of_ble_eq_true rfl) (Nat.le_refl _) (hself a0 a1 a2 (x3 - (1 : Int32)) h_7 (gz_gc hf)) (fun y_11 h_10 hf => ?_)
        refine gz_iadd (pc := 72) dX8_fittingRows_72 ?_
        refine gz_istore (lv := [.ref a0, .ref a1, .ref a2, .int x3, .int (x4 + y_11), .int x5]) (pc := 73) dX8_fittingRows_73 (by decide) rfl ?_
        refine gz_aload_n (pc := 75) dX8_fittingRows_75 rfl rfl ?_
        refine gz_gk hf (fun c_14 hf => ?_)
        refine gz_cVI (av := []) (st := []) (pc := 76) dX8_fittingRows_76 kl_RX8_389 rfl (gz_shs c_14) rfl rfl (Nat.le_of_ble_eq_true rfl) (by show dd - 1 + 1 + 1 ≤ dd + 1; omega) (sX2_loseNewest (d := dd - 1) (gz_gc hf)) (fun y_13 h_12 hf => ?_)
        refine gz_pop (pc := 79) dX8_fittingRows_79 rfl ?_
        exact sX8_fittingRows_80 hself hdd ih a0 a1 a2 x3 (x4 + y_11) x5 h_12 hf
      · have hf := gz_gF hf c_6
        refine gz_goto (tgt := 80) (pc := 51) dX8_fittingRows_51 rfl ?_
        exact sX8_fittingRows_80 hself hdd ih a0 a1 a2 x3 x4 x5 h_3 hf
def fX8_fittingRows_21 (self : Nat → Nat → Nat → Int32 → gz_H → Option (Int32 × gz_H)) (a0 : Nat) (a1 : Nat) (a2 : Nat) (x3 : Int32) (w0 : Int32) (h : gz_H) : Option (Int32 × gz_H) :=
    if 0 < x3 then (
     fX8_fittingRows_33 self gz_fu a0 a1 a2 x3 w0 (0 : Int32) h
    ) else (
     some (w0, h)
    )
set_option maxRecDepth 100000 in
set_option maxHeartbeats 1000000 in
theorem sX8_fittingRows_21 {G : gz_G} {dd l0 s0 : Nat} {Q : Int32 → gz_H → Prop} {self : Nat → Nat → Nat → Int32 → gz_H → Option (Int32 × gz_H)} (hself : ∀ (v0 : Nat) (v1 : Nat) (v2 : Nat) (v3 : Int32) (h : gz_H) {Q : Int32 → gz_H → Prop}, gz_g (self v0 v1 v2 v3 h) Q → gz_Cl G mX8_fittingRows dd 0 0 [.ref v0, .ref v1, .ref v2, .int v3] h (gz_qi Q)) (hdd : 3 ≤ dd) (a0 : Nat) (a1 : Nat) (a2 : Nat) (x3 : Int32) (w0 : Int32) (h : gz_H) (hf : gz_g (fX8_fittingRows_21 self a0 a1 a2 x3 w0 h) Q) : gz_Ok G mX8_fittingRows (dd + 1, l0, s0, 0, 0) 21 [.ref a0, .ref a1, .ref a2, .int x3, .retAddr 0, .retAddr 0] [.int w0] h (gz_qi Q) := by
  unfold fX8_fittingRows_21 at hf
  refine gz_istore (lv := [.ref a0, .ref a1, .ref a2, .int x3, .int w0, .retAddr 0]) (pc := 21) dX8_fittingRows_21 (by decide) rfl ?_
  refine gz_iload_n (pc := 23) dX8_fittingRows_23 rfl rfl ?_
  refine gz_if_gt (tgt := 30) (pc := 24) dX8_fittingRows_24 rfl (fun c_1 => ?_) (fun c_1 => ?_)
  · have hf := gz_gT hf c_1
    refine gz_iconst (v := (0 : Int32)) (pc := 30) dX8_fittingRows_30 rfl ?_
    refine gz_istore (lv := [.ref a0, .ref a1, .ref a2, .int x3, .int w0, .int (0 : Int32)]) (pc := 31) dX8_fittingRows_31 (by decide) rfl ?_
    exact sX8_fittingRows_33 hself hdd gz_fu a0 a1 a2 x3 w0 (0 : Int32) h hf
  · have hf := gz_gF hf c_1
    refine gz_iload (pc := 27) dX8_fittingRows_27 rfl ?_
    exact gz_irt (pc := 29) dX8_fittingRows_29 rfl rfl hf
def fX8_fittingRows_0 (self : Nat → Nat → Nat → Int32 → gz_H → Option (Int32 × gz_H)) (a0 : Nat) (a1 : Nat) (a2 : Nat) (x3 : Int32) (h : gz_H) : Option (Int32 × gz_H) :=
    gz_ck (gz_sh h a0 2 6) <|
    gz_ck (gz_sh h a1 1 4) <|
    gz_br (h.2.2.2 a1 0) fun r_3 =>
    gz_ck (gz_sh h a2 6 2) <|
    gz_b2 (fX6_fits a2 a0 (h.2.1 a0 2) r_3 h) fun y_5 h_4 =>
    if y_5 = 0 then (
     fX8_fittingRows_21 self a0 a1 a2 x3 (0 : Int32) h_4
    ) else (
     fX8_fittingRows_21 self a0 a1 a2 x3 (1 : Int32) h_4
    )
set_option maxRecDepth 100000 in
set_option maxHeartbeats 1000000 in
theorem sX8_fittingRows_0 {G : gz_G} {dd l0 s0 : Nat} {Q : Int32 → gz_H → Prop} {self : Nat → Nat → Nat → Int32 → gz_H → Option (Int32 × gz_H)} (hself : ∀ (v0 : Nat) (v1 : Nat) (v2 : Nat) (v3 : Int32) (h : gz_H) {Q : Int32 → gz_H → Prop}, gz_g (self v0 v1 v2 v3 h) Q → gz_Cl G mX8_fittingRows dd 0 0 [.ref v0, .ref v1, .ref v2, .int v3] h (gz_qi Q)) (hdd : 3 ≤ dd) (a0 : Nat) (a1 : Nat) (a2 : Nat) (x3 : Int32) (h : gz_H) (hf : gz_g (fX8_fittingRows_0 self a0 a1 a2 x3 h) Q) : gz_Ok G mX8_fittingRows (dd + 1, l0, s0, 0, 0) 0 [.ref a0, .ref a1, .ref a2, .int x3, .retAddr 0, .retAddr 0] [] h (gz_qi Q) := by
  unfold fX8_fittingRows_0 at hf
  refine gz_aload_n (pc := 0) dX8_fittingRows_0 rfl rfl ?_
  refine gz_aload_n (pc := 1) dX8_fittingRows_1 rfl rfl ?_
  refine gz_aload_n (pc := 2) dX8_fittingRows_2 rfl rfl ?_
  refine gz_gk hf (fun c_1 hf => ?_)
  refine gz_getI (pc := 3) dX8_fittingRows_3 fl_RX8_158 rfl (gz_shs c_1) ?_
  refine gz_aload_n (pc := 6) dX8_fittingRows_6 rfl rfl ?_
  refine gz_gk hf (fun c_2 hf => ?_)
  refine gz_gb hf (fun r_3 er_3 hf => ?_)
  refine gz_getR (pc := 7) dX8_fittingRows_7 fl_RX8_172 rfl (gz_shs c_2) er_3 ?_
  refine gz_gk hf (fun c_6 hf => ?_)
  refine gz_cVI (av := [.ref a0, .int (h.2.1 a0 2), .ref r_3]) (st := []) (pc := 10) dX8_fittingRows_10 kl_RX8_279 rfl (gz_shs c_6) rfl rfl (Nat.le_of_ble_eq_true rfl) (by show dd - 2 + 2 + 1 ≤ dd + 1; omega) (sX6_fits (d := dd - 2) (gz_gc hf)) (fun y_5 h_4 hf => ?_)
  refine gz_if_eq (tgt := 20) (pc := 13) dX8_fittingRows_13 rfl (fun c_7 => ?_) (fun c_7 => ?_)
  · have hf := gz_gT hf c_7
    refine gz_iconst (v := (0 : Int32)) (pc := 20) dX8_fittingRows_20 rfl ?_
    exact sX8_fittingRows_21 hself hdd a0 a1 a2 x3 (0 : Int32) h_4 hf
  · have hf := gz_gF hf c_7
    refine gz_iconst (v := (1 : Int32)) (pc := 16) dX8_fittingRows_16 rfl ?_
    refine gz_goto (tgt := 21) (pc := 17) dX8_fittingRows_17 rfl ?_
    exact sX8_fittingRows_21 hself hdd a0 a1 a2 x3 (1 : Int32) h_4 hf
def fX8_fittingRows : Nat → Nat → Nat → Nat → Int32 → gz_H → Option (Int32 × gz_H)
  | 0, _, _, _, _, _ => none
  | n + 1, a0, a1, a2, x3, h => fX8_fittingRows_0 (fX8_fittingRows n) a0 a1 a2 x3 h
theorem sX8_fittingRows {G : gz_G} {d : Nat} : ∀ (n : Nat) (a0 : Nat) (a1 : Nat) (a2 : Nat) (x3 : Int32) (h : gz_H) {Q : Int32 → gz_H → Prop}, gz_g (fX8_fittingRows n a0 a1 a2 x3 h) Q → gz_Cl G mX8_fittingRows (d + 3 + n) 0 0 [.ref a0, .ref a1, .ref a2, .int x3] h (gz_qi Q) := by
  intro n
  induction n with
  | zero => intro a0 a1 a2 x3 h Q hf; exact False.elim hf
  | succ n ih =>
    intro a0 a1 a2 x3 h Q hf
    exact gz_cl_of (lo := [.ref a0, .ref a1, .ref a2, .int x3, .retAddr 0, .retAddr 0]) (by decide) rfl rfl (Nat.le_of_ble_eq_true rfl) (sX8_fittingRows_0 ih (by omega) a0 a1 a2 x3 h hf)
theorem dX8_held_0 : decode cX8_held 0 = .ok (.aload_n 0, 1) := by decide +kernel
theorem dX8_held_1 : decode cX8_held 1 = .ok (.getfield 70, 3) := by decide +kernel
theorem dX8_held_4 : decode cX8_held 4 = .ok (.iload_n 1, 1) := by decide +kernel
theorem dX8_held_5 : decode cX8_held 5 = .ok (.invokevirtual 150, 3) := by decide +kernel
theorem dX8_held_8 : decode cX8_held 8 = .ok (.ifCond .eq 14, 3) := by decide +kernel
theorem dX8_held_11 : decode cX8_held 11 = .ok (.aload_n 0, 1) := by decide +kernel
theorem dX8_held_12 : decode cX8_held 12 = .ok (.getfield 14, 3) := by decide +kernel
theorem dX8_held_15 : decode cX8_held 15 = .ok (.iload_n 2, 1) := by decide +kernel
theorem dX8_held_16 : decode cX8_held 16 = .ok (.invokevirtual 118, 3) := by decide +kernel
theorem dX8_held_19 : decode cX8_held 19 = .ok (.ifCond .ne 5, 3) := by decide +kernel
theorem dX8_held_22 : decode cX8_held 22 = .ok (.iconst (-1), 1) := by decide +kernel
theorem dX8_held_23 : decode cX8_held 23 = .ok (.ireturn, 1) := by decide +kernel
theorem dX8_held_24 : decode cX8_held 24 = .ok (.aload_n 0, 1) := by decide +kernel
theorem dX8_held_25 : decode cX8_held 25 = .ok (.getfield 70, 3) := by decide +kernel
theorem dX8_held_28 : decode cX8_held 28 = .ok (.getfield 153, 3) := by decide +kernel
theorem dX8_held_31 : decode cX8_held 31 = .ok (.iload_n 1, 1) := by decide +kernel
theorem dX8_held_32 : decode cX8_held 32 = .ok (.aaload, 1) := by decide +kernel
theorem dX8_held_33 : decode cX8_held 33 = .ok (.astore_n 3, 1) := by decide +kernel
theorem dX8_held_34 : decode cX8_held 34 = .ok (.aload_n 3, 1) := by decide +kernel
theorem dX8_held_35 : decode cX8_held 35 = .ok (.getfield 264, 3) := by decide +kernel
theorem dX8_held_38 : decode cX8_held 38 = .ok (.iconst 4, 1) := by decide +kernel
theorem dX8_held_39 : decode cX8_held 39 = .ok (.if_icmp .le 6, 3) := by decide +kernel
theorem dX8_held_42 : decode cX8_held 42 = .ok (.bipush (-4), 2) := by decide +kernel
theorem dX8_held_44 : decode cX8_held 44 = .ok (.ireturn, 1) := by decide +kernel
theorem dX8_held_45 : decode cX8_held 45 = .ok (.aload_n 0, 1) := by decide +kernel
theorem dX8_held_46 : decode cX8_held 46 = .ok (.iload_n 2, 1) := by decide +kernel
theorem dX8_held_47 : decode cX8_held 47 = .ok (.invokevirtual 267, 3) := by decide +kernel
theorem dX8_held_50 : decode cX8_held 50 = .ok (.istore 4, 2) := by decide +kernel
theorem dX8_held_52 : decode cX8_held 52 = .ok (.iload 4, 2) := by decide +kernel
theorem dX8_held_54 : decode cX8_held 54 = .ok (.ifCond .eq 6, 3) := by decide +kernel
theorem dX8_held_57 : decode cX8_held 57 = .ok (.iload 4, 2) := by decide +kernel
theorem dX8_held_59 : decode cX8_held 59 = .ok (.ireturn, 1) := by decide +kernel
theorem dX8_held_60 : decode cX8_held 60 = .ok (.aload_n 0, 1) := by decide +kernel
theorem dX8_held_61 : decode cX8_held 61 = .ok (.getfield 52, 3) := by decide +kernel
theorem dX8_held_64 : decode cX8_held 64 = .ok (.aload_n 3, 1) := by decide +kernel
theorem dX8_held_65 : decode cX8_held 65 = .ok (.getfield 158, 3) := by decide +kernel
theorem dX8_held_68 : decode cX8_held 68 = .ok (.aload_n 3, 1) := by decide +kernel
theorem dX8_held_69 : decode cX8_held 69 = .ok (.getfield 264, 3) := by decide +kernel
theorem dX8_held_72 : decode cX8_held 72 = .ok (.aload_n 3, 1) := by decide +kernel
theorem dX8_held_73 : decode cX8_held 73 = .ok (.getfield 270, 3) := by decide +kernel
theorem dX8_held_76 : decode cX8_held 76 = .ok (.invokevirtual 273, 3) := by decide +kernel
theorem dX8_held_79 : decode cX8_held 79 = .ok (.aload_n 0, 1) := by decide +kernel
theorem dX8_held_80 : decode cX8_held 80 = .ok (.getfield 38, 3) := by decide +kernel
theorem dX8_held_83 : decode cX8_held 83 = .ok (.aload_n 0, 1) := by decide +kernel
theorem dX8_held_84 : decode cX8_held 84 = .ok (.getfield 52, 3) := by decide +kernel
theorem dX8_held_87 : decode cX8_held 87 = .ok (.aload_n 0, 1) := by decide +kernel
theorem dX8_held_88 : decode cX8_held 88 = .ok (.getfield 70, 3) := by decide +kernel
theorem dX8_held_91 : decode cX8_held 91 = .ok (.aload_n 0, 1) := by decide +kernel
theorem dX8_held_92 : decode cX8_held 92 = .ok (.getfield 45, 3) := by decide +kernel
theorem dX8_held_95 : decode cX8_held 95 = .ok (.aload_n 3, 1) := by decide +kernel
theorem dX8_held_96 : decode cX8_held 96 = .ok (.getfield 264, 3) := by decide +kernel
theorem dX8_held_99 : decode cX8_held 99 = .ok (.invokestatic 275, 3) := by decide +kernel
theorem dX8_held_102 : decode cX8_held 102 = .ok (.i2l, 1) := by decide +kernel
theorem dX8_held_103 : decode cX8_held 103 = .ok (.lconst 1, 1) := by decide +kernel
theorem dX8_held_104 : decode cX8_held 104 = .ok (.invokevirtual 261, 3) := by decide +kernel
theorem dX8_held_107 : decode cX8_held 107 = .ok (.iconst 1, 1) := by decide +kernel
theorem dX8_held_108 : decode cX8_held 108 = .ok (.ireturn, 1) := by decide +kernel
def fX8_held_0  (a0 : Nat) (x1 : Int32) (x2 : Int32) (h : gz_H) : Option (Int32 × gz_H) :=
    gz_ck (gz_sh h a0 8 19) <|
    gz_br (h.2.2.2 a0 9) fun r_2 =>
    gz_ck (gz_sh h r_2 1 4) <|
    gz_b2 (fX1_hasGoose r_2 x1 h) fun y_4 h_3 =>
    if y_4 = 0 then (
     some ((-1 : Int32), h_3)
    ) else (
     gz_ck (gz_sh h_3 a0 8 19) <|
     gz_br (h_3.2.2.2 a0 0) fun r_8 =>
     gz_ck (gz_sh h_3 r_8 7 3) <|
     gz_b2 (fX7_knows r_8 x2 h_3) fun y_10 h_9 =>
     if y_10 = 0 then (
      some ((-1 : Int32), h_9)
     ) else (
      gz_ck (gz_sh h_9 a0 8 19) <|
      gz_br (h_9.2.2.2 a0 9) fun r_14 =>
      gz_ck (gz_sh h_9 r_14 1 4) <|
      gz_br (h_9.2.2.2 r_14 1) fun r_16 =>
      gz_ck (gz_inb h_9 r_16 11 x1) <|
      gz_br (h_9.2.2.2 r_16 x1.toNatClampNeg) fun r_18 =>
      gz_ck (gz_sh h_9 r_18 2 6) <|
      if (h_9.2.1 r_18 3) ≤ (4 : Int32) then (
       gz_b2 (fX8_readReport a0 x2 h_9) fun y_22 h_21 =>
       if y_22 = 0 then (
        gz_ck (gz_sh h_21 a0 8 19) <|
        gz_br (h_21.2.2.2 a0 6) fun r_25 =>
        gz_ck (gz_sh h_21 r_18 2 6) <|
        gz_ck (gz_sh h_21 r_25 2 6) <|
        gz_b2 (fX2_become r_25 (h_21.2.1 r_18 2) (h_21.2.1 r_18 3) (h_21.2.1 r_18 4) h_21) fun _ h_27 =>
        gz_ck (gz_sh h_27 a0 8 19) <|
        gz_br (h_27.2.2.2 a0 4) fun r_31 =>
        gz_br (h_27.2.2.2 a0 6) fun r_32 =>
        gz_br (h_27.2.2.2 a0 9) fun r_33 =>
        gz_br (h_27.2.2.2 a0 5) fun r_34 =>
        gz_ck (gz_sh h_27 r_18 2 6) <|
        gz_b2 (fX8_fittingRows 8 r_32 r_33 r_34 (h_27.2.1 r_18 3) h_27) fun y_37 h_36 =>
        gz_ck (gz_sh h_36 r_31 4 2) <|
        gz_b2 (fX4_become r_31 y_37.toInt64 (1 : Int64) h_36) fun _ h_38 =>
        some ((1 : Int32), h_38)
       ) else (
        some (y_22, h_21)
       )
      ) else (
       some ((-4 : Int32), h_9)
      )
     )
    )
set_option maxRecDepth 100000 in
set_option maxHeartbeats 1000000 in
theorem sX8_held_0 {G : gz_G} {d l0 s0 : Nat} {Q : Int32 → gz_H → Prop} (a0 : Nat) (x1 : Int32) (x2 : Int32) (h : gz_H) (hf : gz_g (fX8_held_0  a0 x1 x2 h) Q) : gz_Ok G mX8_held (d + 12, l0, s0, 0, 0) 0 [.ref a0, .int x1, .int x2, .retAddr 0, .retAddr 0] [] h (gz_qi Q) := by
  unfold fX8_held_0 at hf
  refine gz_aload_n (pc := 0) dX8_held_0 rfl rfl ?_
  refine gz_gk hf (fun c_1 hf => ?_)
  refine gz_gb hf (fun r_2 er_2 hf => ?_)
  refine gz_getR (pc := 1) dX8_held_1 fl_RX8_70 rfl (gz_shs c_1) er_2 ?_
  refine gz_iload_n (pc := 4) dX8_held_4 rfl rfl ?_
  refine gz_gk hf (fun c_5 hf => ?_)
  refine gz_cVI (av := [.int x1]) (st := []) (pc := 5) dX8_held_5 kl_RX8_150 rfl (gz_shs c_5) rfl rfl (Nat.le_of_ble_eq_true rfl) (by show d + 11 + 0 + 1 ≤ d + 12; omega) (sX1_hasGoose (d := d + 11) (gz_gc hf)) (fun y_4 h_3 hf => ?_)
  refine gz_if_eq (tgt := 22) (pc := 8) dX8_held_8 rfl (fun c_6 => ?_) (fun c_6 => ?_)
  · have hf := gz_gT hf c_6
    refine gz_iconst (v := (-1 : Int32)) (pc := 22) dX8_held_22 rfl ?_
    exact gz_irt (pc := 23) dX8_held_23 rfl rfl hf
  · have hf := gz_gF hf c_6
    refine gz_aload_n (pc := 11) dX8_held_11 rfl rfl ?_
    refine gz_gk hf (fun c_7 hf => ?_)
    refine gz_gb hf (fun r_8 er_8 hf => ?_)
    refine gz_getR (pc := 12) dX8_held_12 fl_RX8_14 rfl (gz_shs c_7) er_8 ?_
    refine gz_iload_n (pc := 15) dX8_held_15 rfl rfl ?_
    refine gz_gk hf (fun c_11 hf => ?_)
    refine gz_cVI (av := [.int x2]) (st := []) (pc := 16) dX8_held_16 kl_RX8_118 rfl (gz_shs c_11) rfl rfl (Nat.le_of_ble_eq_true rfl) (by show d + 11 + 0 + 1 ≤ d + 12; omega) (sX7_knows (d := d + 11) (gz_gc hf)) (fun y_10 h_9 hf => ?_)
    refine gz_if_ne (tgt := 24) (pc := 19) dX8_held_19 rfl (fun c_12 => ?_) (fun c_12 => ?_)
    · have hf := gz_gF hf c_12
      refine gz_aload_n (pc := 24) dX8_held_24 rfl rfl ?_
      refine gz_gk hf (fun c_13 hf => ?_)
      refine gz_gb hf (fun r_14 er_14 hf => ?_)
      refine gz_getR (pc := 25) dX8_held_25 fl_RX8_70 rfl (gz_shs c_13) er_14 ?_
      refine gz_gk hf (fun c_15 hf => ?_)
      refine gz_gb hf (fun r_16 er_16 hf => ?_)
      refine gz_getR (pc := 28) dX8_held_28 fl_RX8_153 rfl (gz_shs c_15) er_16 ?_
      refine gz_iload_n (pc := 31) dX8_held_31 rfl rfl ?_
      refine gz_gk hf (fun c_17 hf => ?_)
      refine gz_gb hf (fun r_18 er_18 hf => ?_)
      refine gz_aald (Or.inl rfl) (pc := 32) dX8_held_32 c_17 er_18 ?_
      refine gz_astore_n (lv := [.ref a0, .int x1, .int x2, .ref r_18, .retAddr 0]) (pc := 33) dX8_held_33 rfl (by decide) rfl ?_
      refine gz_aload_n (pc := 34) dX8_held_34 rfl rfl ?_
      refine gz_gk hf (fun c_19 hf => ?_)
      refine gz_getI (pc := 35) dX8_held_35 fl_RX8_264 rfl (gz_shs c_19) ?_
      refine gz_iconst (v := (4 : Int32)) (pc := 38) dX8_held_38 rfl ?_
      refine gz_icmp_le (tgt := 45) (pc := 39) dX8_held_39 rfl (fun c_20 => ?_) (fun c_20 => ?_)
      · have hf := gz_gT hf c_20
        refine gz_aload_n (pc := 45) dX8_held_45 rfl rfl ?_
        refine gz_iload_n (pc := 46) dX8_held_46 rfl rfl ?_
        refine gz_cVI (av := [.int x2]) (st := []) (pc := 47) dX8_held_47 kl_RX8_267 rfl (gz_shs c_13) rfl rfl (Nat.le_of_ble_eq_true rfl) (by show d + 9 + 2 + 1 ≤ d + 12; omega) (sX8_readReport (d := d + 9) (gz_gc hf)) (fun y_22 h_21 hf => ?_)
        refine gz_istore (lv := [.ref a0, .int x1, .int x2, .ref r_18, .int y_22]) (pc := 50) dX8_held_50 (by decide) rfl ?_
        refine gz_iload (pc := 52) dX8_held_52 rfl ?_
        refine gz_if_eq (tgt := 60) (pc := 54) dX8_held_54 rfl (fun c_23 => ?_) (fun c_23 => ?_)
        · have hf := gz_gT hf c_23
          refine gz_aload_n (pc := 60) dX8_held_60 rfl rfl ?_
          refine gz_gk hf (fun c_24 hf => ?_)
          refine gz_gb hf (fun r_25 er_25 hf => ?_)
          refine gz_getR (pc := 61) dX8_held_61 fl_RX8_52 rfl (gz_shs c_24) er_25 ?_
          refine gz_aload_n (pc := 64) dX8_held_64 rfl rfl ?_
          refine gz_gk hf (fun c_26 hf => ?_)
          refine gz_getI (pc := 65) dX8_held_65 fl_RX8_158 rfl (gz_shs c_26) ?_
          refine gz_aload_n (pc := 68) dX8_held_68 rfl rfl ?_
          refine gz_getI (pc := 69) dX8_held_69 fl_RX8_264 rfl (gz_shs c_26) ?_
          refine gz_aload_n (pc := 72) dX8_held_72 rfl rfl ?_
          refine gz_getI (pc := 73) dX8_held_73 fl_RX8_270 rfl (gz_shs c_26) ?_
          refine gz_gk hf (fun c_29 hf => ?_)
          refine gz_cVV (av := [.int (h_21.2.1 r_18 2), .int (h_21.2.1 r_18 3), .int (h_21.2.1 r_18 4)]) (st := []) (pc := 76) dX8_held_76 kl_RX8_273 rfl (gz_shs c_29) rfl rfl (Nat.le_of_ble_eq_true rfl) (by show d + 11 + 0 + 1 ≤ d + 12; omega) (sX2_become (d := d + 11) (gz_gc hf)) (fun _ h_27 hf => ?_)
          refine gz_aload_n (pc := 79) dX8_held_79 rfl rfl ?_
          refine gz_gk hf (fun c_30 hf => ?_)
          refine gz_gb hf (fun r_31 er_31 hf => ?_)
          refine gz_getR (pc := 80) dX8_held_80 fl_RX8_38 rfl (gz_shs c_30) er_31 ?_
          refine gz_aload_n (pc := 83) dX8_held_83 rfl rfl ?_
          refine gz_gb hf (fun r_32 er_32 hf => ?_)
          refine gz_getR (pc := 84) dX8_held_84 fl_RX8_52 rfl (gz_shs c_30) er_32 ?_
          refine gz_aload_n (pc := 87) dX8_held_87 rfl rfl ?_
          refine gz_gb hf (fun r_33 er_33 hf => ?_)
          refine gz_getR (pc := 88) dX8_held_88 fl_RX8_70 rfl (gz_shs c_30) er_33 ?_
          refine gz_aload_n (pc := 91) dX8_held_91 rfl rfl ?_
          refine gz_gb hf (fun r_34 er_34 hf => ?_)
          refine gz_getR (pc := 92) dX8_held_92 fl_RX8_45 rfl (gz_shs c_30) er_34 ?_
          refine gz_aload_n (pc := 95) dX8_held_95 rfl rfl ?_
          refine gz_gk hf (fun c_35 hf => ?_)
          refine gz_getI (pc := 96) dX8_held_96 fl_RX8_264 rfl (gz_shs c_35) ?_
          refine gz_cSI (av := [.ref r_32, .ref r_33, .ref r_34, .int (h_27.2.1 r_18 3)]) (st := [.ref r_31]) (pc := 99) dX8_held_99 kl_RX8_275 rfl rfl (Nat.le_of_ble_eq_true rfl) (by show d + 0 + 3 + 8 + 1 ≤ d + 12; omega) (sX8_fittingRows (d := d + 0) 8 r_32 r_33 r_34 (h_27.2.1 r_18 3) h_27 (gz_gc hf)) (fun y_37 h_36 hf => ?_)
          refine gz_i2l (pc := 102) dX8_held_102 ?_
          refine gz_lconst (v := (1 : Int64)) (pc := 103) dX8_held_103 rfl ?_
          refine gz_gk hf (fun c_40 hf => ?_)
          refine gz_cVV (av := [.long y_37.toInt64, .long (1 : Int64)]) (st := []) (pc := 104) dX8_held_104 kl_RX8_261 rfl (gz_shs c_40) rfl rfl (Nat.le_of_ble_eq_true rfl) (by show d + 10 + 1 + 1 ≤ d + 12; omega) (sX4_become (d := d + 10) (gz_gc hf)) (fun _ h_38 hf => ?_)
          refine gz_iconst (v := (1 : Int32)) (pc := 107) dX8_held_107 rfl ?_
          exact gz_irt (pc := 108) dX8_held_108 rfl rfl hf
        · have hf := gz_gF hf c_23
          refine gz_iload (pc := 57) dX8_held_57 rfl ?_
          exact gz_irt (pc := 59) dX8_held_59 rfl rfl hf
      · have hf := gz_gF hf c_20
        refine gz_bipush (v := (-4 : Int32)) (pc := 42) dX8_held_42 rfl ?_
        exact gz_irt (pc := 44) dX8_held_44 rfl rfl hf
    · have hf := gz_gT hf c_12
      refine gz_iconst (v := (-1 : Int32)) (pc := 22) dX8_held_22 rfl ?_
      exact gz_irt (pc := 23) dX8_held_23 rfl rfl hf
def fX8_held (a0 : Nat) (x1 : Int32) (x2 : Int32) (h : gz_H) : Option (Int32 × gz_H) := fX8_held_0 a0 x1 x2 h
theorem sX8_held {G : gz_G} {d : Nat} {a0 : Nat} {x1 : Int32} {x2 : Int32} {h : gz_H} {Q : Int32 → gz_H → Prop} (hf : gz_g (fX8_held a0 x1 x2 h) Q) : gz_Cl G mX8_held (d + 12) 0 0 [.ref a0, .int x1, .int x2] h (gz_qi Q) := gz_cl_of (lo := [.ref a0, .int x1, .int x2, .retAddr 0, .retAddr 0]) (by decide) rfl rfl (Nat.le_of_ble_eq_true rfl) (sX8_held_0 a0 x1 x2 h hf)
theorem dX8_kinds_0 : decode cX8_kinds 0 = .ok (.aload_n 0, 1) := by decide +kernel
theorem dX8_kinds_1 : decode cX8_kinds 1 = .ok (.getfield 70, 3) := by decide +kernel
theorem dX8_kinds_4 : decode cX8_kinds 4 = .ok (.iload_n 1, 1) := by decide +kernel
theorem dX8_kinds_5 : decode cX8_kinds 5 = .ok (.invokevirtual 150, 3) := by decide +kernel
theorem dX8_kinds_8 : decode cX8_kinds 8 = .ok (.ifCond .eq 14, 3) := by decide +kernel
theorem dX8_kinds_11 : decode cX8_kinds 11 = .ok (.aload_n 0, 1) := by decide +kernel
theorem dX8_kinds_12 : decode cX8_kinds 12 = .ok (.getfield 14, 3) := by decide +kernel
theorem dX8_kinds_15 : decode cX8_kinds 15 = .ok (.iload_n 2, 1) := by decide +kernel
theorem dX8_kinds_16 : decode cX8_kinds 16 = .ok (.invokevirtual 118, 3) := by decide +kernel
theorem dX8_kinds_19 : decode cX8_kinds 19 = .ok (.ifCond .ne 5, 3) := by decide +kernel
theorem dX8_kinds_22 : decode cX8_kinds 22 = .ok (.iconst (-1), 1) := by decide +kernel
theorem dX8_kinds_23 : decode cX8_kinds 23 = .ok (.ireturn, 1) := by decide +kernel
theorem dX8_kinds_24 : decode cX8_kinds 24 = .ok (.aload_n 0, 1) := by decide +kernel
theorem dX8_kinds_25 : decode cX8_kinds 25 = .ok (.iload_n 2, 1) := by decide +kernel
theorem dX8_kinds_26 : decode cX8_kinds 26 = .ok (.invokevirtual 267, 3) := by decide +kernel
theorem dX8_kinds_29 : decode cX8_kinds 29 = .ok (.istore_n 3, 1) := by decide +kernel
theorem dX8_kinds_30 : decode cX8_kinds 30 = .ok (.iload_n 3, 1) := by decide +kernel
theorem dX8_kinds_31 : decode cX8_kinds 31 = .ok (.ifCond .eq 5, 3) := by decide +kernel
theorem dX8_kinds_34 : decode cX8_kinds 34 = .ok (.iload_n 3, 1) := by decide +kernel
theorem dX8_kinds_35 : decode cX8_kinds 35 = .ok (.ireturn, 1) := by decide +kernel
theorem dX8_kinds_36 : decode cX8_kinds 36 = .ok (.iconst 0, 1) := by decide +kernel
theorem dX8_kinds_37 : decode cX8_kinds 37 = .ok (.istore 4, 2) := by decide +kernel
theorem dX8_kinds_39 : decode cX8_kinds 39 = .ok (.iconst 0, 1) := by decide +kernel
theorem dX8_kinds_40 : decode cX8_kinds 40 = .ok (.istore 5, 2) := by decide +kernel
theorem dX8_kinds_42 : decode cX8_kinds 42 = .ok (.iload 5, 2) := by decide +kernel
theorem dX8_kinds_44 : decode cX8_kinds 44 = .ok (.bipush 6, 2) := by decide +kernel
theorem dX8_kinds_46 : decode cX8_kinds 46 = .ok (.if_icmp .ge 46, 3) := by decide +kernel
theorem dX8_kinds_49 : decode cX8_kinds 49 = .ok (.aload_n 0, 1) := by decide +kernel
theorem dX8_kinds_50 : decode cX8_kinds 50 = .ok (.getfield 45, 3) := by decide +kernel
theorem dX8_kinds_53 : decode cX8_kinds 53 = .ok (.aload_n 0, 1) := by decide +kernel
theorem dX8_kinds_54 : decode cX8_kinds 54 = .ok (.getfield 70, 3) := by decide +kernel
theorem dX8_kinds_57 : decode cX8_kinds 57 = .ok (.getfield 153, 3) := by decide +kernel
theorem dX8_kinds_60 : decode cX8_kinds 60 = .ok (.iload_n 1, 1) := by decide +kernel
theorem dX8_kinds_61 : decode cX8_kinds 61 = .ok (.aaload, 1) := by decide +kernel
theorem dX8_kinds_62 : decode cX8_kinds 62 = .ok (.iload 5, 2) := by decide +kernel
theorem dX8_kinds_64 : decode cX8_kinds 64 = .ok (.aload_n 0, 1) := by decide +kernel
theorem dX8_kinds_65 : decode cX8_kinds 65 = .ok (.getfield 70, 3) := by decide +kernel
theorem dX8_kinds_68 : decode cX8_kinds 68 = .ok (.getfield 172, 3) := by decide +kernel
theorem dX8_kinds_71 : decode cX8_kinds 71 = .ok (.invokevirtual 279, 3) := by decide +kernel
theorem dX8_kinds_74 : decode cX8_kinds 74 = .ok (.ifCond .eq 12, 3) := by decide +kernel
theorem dX8_kinds_77 : decode cX8_kinds 77 = .ok (.iload 4, 2) := by decide +kernel
theorem dX8_kinds_79 : decode cX8_kinds 79 = .ok (.iconst 1, 1) := by decide +kernel
theorem dX8_kinds_80 : decode cX8_kinds 80 = .ok (.iload 5, 2) := by decide +kernel
theorem dX8_kinds_82 : decode cX8_kinds 82 = .ok (.ishl, 1) := by decide +kernel
theorem dX8_kinds_83 : decode cX8_kinds 83 = .ok (.ior, 1) := by decide +kernel
theorem dX8_kinds_84 : decode cX8_kinds 84 = .ok (.istore 4, 2) := by decide +kernel
theorem dX8_kinds_86 : decode cX8_kinds 86 = .ok (.iinc 5 1, 3) := by decide +kernel
theorem dX8_kinds_89 : decode cX8_kinds 89 = .ok (.goto (-47), 3) := by decide +kernel
theorem dX8_kinds_92 : decode cX8_kinds 92 = .ok (.iload 4, 2) := by decide +kernel
theorem dX8_kinds_94 : decode cX8_kinds 94 = .ok (.ireturn, 1) := by decide +kernel
def fX8_kinds_86 (k42 : Nat → Int32 → Int32 → Int32 → gz_H → Option (Int32 × gz_H)) (a0 : Nat) (x1 : Int32) (x4 : Int32) (x5 : Int32) (h : gz_H) : Option (Int32 × gz_H) :=
    k42 a0 x1 x4 (x5 + 1) h
set_option maxRecDepth 100000 in
set_option maxHeartbeats 1000000 in
theorem sX8_kinds_86 {G : gz_G} {d l0 s0 : Nat} {Q : Int32 → gz_H → Prop} {k42 : Nat → Int32 → Int32 → Int32 → gz_H → Option (Int32 × gz_H)} (hk42 : ∀ (a0 : Nat) (x1 : Int32) (x4 : Int32) (x5 : Int32) (h : gz_H), gz_g (k42 a0 x1 x4 x5 h) Q → gz_Ok G mX8_kinds (d + 3, l0, s0, 0, 0) 42 [.ref a0, .int x1, .retAddr 0, .retAddr 0, .int x4, .int x5] [] h (gz_qi Q)) (a0 : Nat) (x1 : Int32) (x4 : Int32) (x5 : Int32) (h : gz_H) (hf : gz_g (fX8_kinds_86 k42 a0 x1 x4 x5 h) Q) : gz_Ok G mX8_kinds (d + 3, l0, s0, 0, 0) 86 [.ref a0, .int x1, .retAddr 0, .retAddr 0, .int x4, .int x5] [] h (gz_qi Q) := by
  unfold fX8_kinds_86 at hf
  refine gz_iinc (v := x5 + 1) (lv := [.ref a0, .int x1, .retAddr 0, .retAddr 0, .int x4, .int (x5 + 1)]) (pc := 86) dX8_kinds_86 rfl rfl (by decide) rfl ?_
  refine gz_goto (tgt := 42) (pc := 89) dX8_kinds_89 rfl ?_
  exact hk42 a0 x1 x4 (x5 + 1) h hf
def fX8_kinds_42  : Nat → Nat → Int32 → Int32 → Int32 → gz_H → Option (Int32 × gz_H)
  | 0, _, _, _, _, _ => none
  | n + 1, a0, x1, x4, x5, h =>
    if (6 : Int32) ≤ x5 then (
     some (x4, h)
    ) else (
     gz_ck (gz_sh h a0 8 19) <|
     gz_br (h.2.2.2 a0 5) fun r_3 =>
     gz_br (h.2.2.2 a0 9) fun r_4 =>
     gz_ck (gz_sh h r_4 1 4) <|
     gz_br (h.2.2.2 r_4 1) fun r_6 =>
     gz_ck (gz_inb h r_6 11 x1) <|
     gz_br (h.2.2.2 r_6 x1.toNatClampNeg) fun r_8 =>
     gz_br (h.2.2.2 r_4 0) fun r_9 =>
     gz_ck (gz_sh h r_3 6 2) <|
     gz_b2 (fX6_fits r_3 r_8 x5 r_9 h) fun y_11 h_10 =>
     if y_11 = 0 then (
      fX8_kinds_86 (fun z0 z1 z2 z3 zh => fX8_kinds_42 n z0 z1 z2 z3 zh) a0 x1 x4 x5 h_10
     ) else (
      fX8_kinds_86 (fun z0 z1 z2 z3 zh => fX8_kinds_42 n z0 z1 z2 z3 zh) a0 x1 (x4 ||| ((1 : Int32) <<< (x5 &&& 31))) x5 h_10
     )
    )
set_option maxRecDepth 100000 in
set_option maxHeartbeats 1000000 in
theorem sX8_kinds_42 {G : gz_G} {d l0 s0 : Nat} {Q : Int32 → gz_H → Prop} : ∀ (n : Nat) (a0 : Nat) (x1 : Int32) (x4 : Int32) (x5 : Int32) (h : gz_H), gz_g (fX8_kinds_42  n a0 x1 x4 x5 h) Q → gz_Ok G mX8_kinds (d + 3, l0, s0, 0, 0) 42 [.ref a0, .int x1, .retAddr 0, .retAddr 0, .int x4, .int x5] [] h (gz_qi Q) := by
  intro n
  induction n with
  | zero => intro a0 x1 x4 x5 h hf; exact False.elim hf
  | succ n ih =>
    intro a0 x1 x4 x5 h hf
    rw [fX8_kinds_42] at hf
    refine gz_iload (pc := 42) dX8_kinds_42 rfl ?_
    refine gz_bipush (v := (6 : Int32)) (pc := 44) dX8_kinds_44 rfl ?_
    refine gz_icmp_ge (tgt := 92) (pc := 46) dX8_kinds_46 rfl (fun c_1 => ?_) (fun c_1 => ?_)
    · have hf := gz_gT hf c_1
      refine gz_iload (pc := 92) dX8_kinds_92 rfl ?_
      exact gz_irt (pc := 94) dX8_kinds_94 rfl rfl hf
    · have hf := gz_gF hf c_1
      refine gz_aload_n (pc := 49) dX8_kinds_49 rfl rfl ?_
      refine gz_gk hf (fun c_2 hf => ?_)
      refine gz_gb hf (fun r_3 er_3 hf => ?_)
      refine gz_getR (pc := 50) dX8_kinds_50 fl_RX8_45 rfl (gz_shs c_2) er_3 ?_
      refine gz_aload_n (pc := 53) dX8_kinds_53 rfl rfl ?_
      refine gz_gb hf (fun r_4 er_4 hf => ?_)
      refine gz_getR (pc := 54) dX8_kinds_54 fl_RX8_70 rfl (gz_shs c_2) er_4 ?_
      refine gz_gk hf (fun c_5 hf => ?_)
      refine gz_gb hf (fun r_6 er_6 hf => ?_)
      refine gz_getR (pc := 57) dX8_kinds_57 fl_RX8_153 rfl (gz_shs c_5) er_6 ?_
      refine gz_iload_n (pc := 60) dX8_kinds_60 rfl rfl ?_
      refine gz_gk hf (fun c_7 hf => ?_)
      refine gz_gb hf (fun r_8 er_8 hf => ?_)
      refine gz_aald (Or.inl rfl) (pc := 61) dX8_kinds_61 c_7 er_8 ?_
      refine gz_iload (pc := 62) dX8_kinds_62 rfl ?_
      refine gz_aload_n (pc := 64) dX8_kinds_64 rfl rfl ?_
      refine gz_getR (pc := 65) dX8_kinds_65 fl_RX8_70 rfl (gz_shs c_2) er_4 ?_
      refine gz_gb hf (fun r_9 er_9 hf => ?_)
      refine gz_getR (pc := 68) dX8_kinds_68 fl_RX8_172 rfl (gz_shs c_5) er_9 ?_
      refine gz_gk hf (fun c_12 hf => ?_)
      refine gz_cVI (av := [.ref r_8, .int x5, .ref r_9]) (st := []) (pc := 71) dX8_kinds_71 kl_RX8_279 rfl (gz_shs c_12) rfl rfl (Nat.le_of_ble_eq_true rfl) (by show d + 0 + 2 + 1 ≤ d + 3; omega) (sX6_fits (d := d + 0) (gz_gc hf)) (fun y_11 h_10 hf => ?_)
      refine gz_if_eq (tgt := 86) (pc := 74) dX8_kinds_74 rfl (fun c_13 => ?_) (fun c_13 => ?_)
      · have hf := gz_gT hf c_13
        exact sX8_kinds_86 ih a0 x1 x4 x5 h_10 hf
      · have hf := gz_gF hf c_13
        refine gz_iload (pc := 77) dX8_kinds_77 rfl ?_
        refine gz_iconst (v := (1 : Int32)) (pc := 79) dX8_kinds_79 rfl ?_
        refine gz_iload (pc := 80) dX8_kinds_80 rfl ?_
        refine gz_ishl (pc := 82) dX8_kinds_82 ?_
        refine gz_ior (pc := 83) dX8_kinds_83 ?_
        refine gz_istore (lv := [.ref a0, .int x1, .retAddr 0, .retAddr 0, .int (x4 ||| ((1 : Int32) <<< (x5 &&& 31))), .int x5]) (pc := 84) dX8_kinds_84 (by decide) rfl ?_
        exact sX8_kinds_86 ih a0 x1 (x4 ||| ((1 : Int32) <<< (x5 &&& 31))) x5 h_10 hf
def fX8_kinds_0  (a0 : Nat) (x1 : Int32) (x2 : Int32) (h : gz_H) : Option (Int32 × gz_H) :=
    gz_ck (gz_sh h a0 8 19) <|
    gz_br (h.2.2.2 a0 9) fun r_2 =>
    gz_ck (gz_sh h r_2 1 4) <|
    gz_b2 (fX1_hasGoose r_2 x1 h) fun y_4 h_3 =>
    if y_4 = 0 then (
     some ((-1 : Int32), h_3)
    ) else (
     gz_ck (gz_sh h_3 a0 8 19) <|
     gz_br (h_3.2.2.2 a0 0) fun r_8 =>
     gz_ck (gz_sh h_3 r_8 7 3) <|
     gz_b2 (fX7_knows r_8 x2 h_3) fun y_10 h_9 =>
     if y_10 = 0 then (
      some ((-1 : Int32), h_9)
     ) else (
      gz_ck (gz_sh h_9 a0 8 19) <|
      gz_b2 (fX8_readReport a0 x2 h_9) fun y_14 h_13 =>
      if y_14 = 0 then (
       fX8_kinds_42 gz_fu a0 x1 (0 : Int32) (0 : Int32) h_13
      ) else (
       some (y_14, h_13)
      )
     )
    )
set_option maxRecDepth 100000 in
set_option maxHeartbeats 1000000 in
theorem sX8_kinds_0 {G : gz_G} {d l0 s0 : Nat} {Q : Int32 → gz_H → Prop} (a0 : Nat) (x1 : Int32) (x2 : Int32) (h : gz_H) (hf : gz_g (fX8_kinds_0  a0 x1 x2 h) Q) : gz_Ok G mX8_kinds (d + 3, l0, s0, 0, 0) 0 [.ref a0, .int x1, .int x2, .retAddr 0, .retAddr 0, .retAddr 0] [] h (gz_qi Q) := by
  unfold fX8_kinds_0 at hf
  refine gz_aload_n (pc := 0) dX8_kinds_0 rfl rfl ?_
  refine gz_gk hf (fun c_1 hf => ?_)
  refine gz_gb hf (fun r_2 er_2 hf => ?_)
  refine gz_getR (pc := 1) dX8_kinds_1 fl_RX8_70 rfl (gz_shs c_1) er_2 ?_
  refine gz_iload_n (pc := 4) dX8_kinds_4 rfl rfl ?_
  refine gz_gk hf (fun c_5 hf => ?_)
  refine gz_cVI (av := [.int x1]) (st := []) (pc := 5) dX8_kinds_5 kl_RX8_150 rfl (gz_shs c_5) rfl rfl (Nat.le_of_ble_eq_true rfl) (by show d + 2 + 0 + 1 ≤ d + 3; omega) (sX1_hasGoose (d := d + 2) (gz_gc hf)) (fun y_4 h_3 hf => ?_)
  refine gz_if_eq (tgt := 22) (pc := 8) dX8_kinds_8 rfl (fun c_6 => ?_) (fun c_6 => ?_)
  · have hf := gz_gT hf c_6
    refine gz_iconst (v := (-1 : Int32)) (pc := 22) dX8_kinds_22 rfl ?_
    exact gz_irt (pc := 23) dX8_kinds_23 rfl rfl hf
  · have hf := gz_gF hf c_6
    refine gz_aload_n (pc := 11) dX8_kinds_11 rfl rfl ?_
    refine gz_gk hf (fun c_7 hf => ?_)
    refine gz_gb hf (fun r_8 er_8 hf => ?_)
    refine gz_getR (pc := 12) dX8_kinds_12 fl_RX8_14 rfl (gz_shs c_7) er_8 ?_
    refine gz_iload_n (pc := 15) dX8_kinds_15 rfl rfl ?_
    refine gz_gk hf (fun c_11 hf => ?_)
    refine gz_cVI (av := [.int x2]) (st := []) (pc := 16) dX8_kinds_16 kl_RX8_118 rfl (gz_shs c_11) rfl rfl (Nat.le_of_ble_eq_true rfl) (by show d + 2 + 0 + 1 ≤ d + 3; omega) (sX7_knows (d := d + 2) (gz_gc hf)) (fun y_10 h_9 hf => ?_)
    refine gz_if_ne (tgt := 24) (pc := 19) dX8_kinds_19 rfl (fun c_12 => ?_) (fun c_12 => ?_)
    · have hf := gz_gF hf c_12
      refine gz_aload_n (pc := 24) dX8_kinds_24 rfl rfl ?_
      refine gz_iload_n (pc := 25) dX8_kinds_25 rfl rfl ?_
      refine gz_gk hf (fun c_15 hf => ?_)
      refine gz_cVI (av := [.int x2]) (st := []) (pc := 26) dX8_kinds_26 kl_RX8_267 rfl (gz_shs c_15) rfl rfl (Nat.le_of_ble_eq_true rfl) (by show d + 0 + 2 + 1 ≤ d + 3; omega) (sX8_readReport (d := d + 0) (gz_gc hf)) (fun y_14 h_13 hf => ?_)
      refine gz_istore_n (lv := [.ref a0, .int x1, .int x2, .int y_14, .retAddr 0, .retAddr 0]) (pc := 29) dX8_kinds_29 rfl (by decide) rfl ?_
      refine gz_iload_n (pc := 30) dX8_kinds_30 rfl rfl ?_
      refine gz_if_eq (tgt := 36) (pc := 31) dX8_kinds_31 rfl (fun c_16 => ?_) (fun c_16 => ?_)
      · have hf := gz_gT hf c_16
        refine gz_iconst (v := (0 : Int32)) (pc := 36) dX8_kinds_36 rfl ?_
        refine gz_istore (lv := [.ref a0, .int x1, .int x2, .int y_14, .int (0 : Int32), .retAddr 0]) (pc := 37) dX8_kinds_37 (by decide) rfl ?_
        refine gz_iconst (v := (0 : Int32)) (pc := 39) dX8_kinds_39 rfl ?_
        refine gz_istore (lv := [.ref a0, .int x1, .int x2, .int y_14, .int (0 : Int32), .int (0 : Int32)]) (pc := 40) dX8_kinds_40 (by decide) rfl ?_
        refine gz_fg (lv := [.ref a0, .int x1, .retAddr 0, .retAddr 0, .int (0 : Int32), .int (0 : Int32)]) ⟨Or.inr rfl, ⟨Or.inr rfl, ⟨Or.inl rfl, ⟨Or.inl rfl, ⟨Or.inr rfl, ⟨Or.inr rfl, trivial⟩⟩⟩⟩⟩⟩ ?_
        exact sX8_kinds_42 gz_fu a0 x1 (0 : Int32) (0 : Int32) h_13 hf
      · have hf := gz_gF hf c_16
        refine gz_iload_n (pc := 34) dX8_kinds_34 rfl rfl ?_
        exact gz_irt (pc := 35) dX8_kinds_35 rfl rfl hf
    · have hf := gz_gT hf c_12
      refine gz_iconst (v := (-1 : Int32)) (pc := 22) dX8_kinds_22 rfl ?_
      exact gz_irt (pc := 23) dX8_kinds_23 rfl rfl hf
def fX8_kinds (a0 : Nat) (x1 : Int32) (x2 : Int32) (h : gz_H) : Option (Int32 × gz_H) := fX8_kinds_0 a0 x1 x2 h
theorem sX8_kinds {G : gz_G} {d : Nat} {a0 : Nat} {x1 : Int32} {x2 : Int32} {h : gz_H} {Q : Int32 → gz_H → Prop} (hf : gz_g (fX8_kinds a0 x1 x2 h) Q) : gz_Cl G mX8_kinds (d + 3) 0 0 [.ref a0, .int x1, .int x2] h (gz_qi Q) := gz_cl_of (lo := [.ref a0, .int x1, .int x2, .retAddr 0, .retAddr 0, .retAddr 0]) (by decide) rfl rfl (Nat.le_of_ble_eq_true rfl) (sX8_kinds_0 a0 x1 x2 h hf)
theorem dX8_power_0 : decode cX8_power 0 = .ok (.lconst 1, 1) := by decide +kernel
theorem dX8_power_1 : decode cX8_power 1 = .ok (.lstore_n 2, 1) := by decide +kernel
theorem dX8_power_2 : decode cX8_power 2 = .ok (.iconst 0, 1) := by decide +kernel
theorem dX8_power_3 : decode cX8_power 3 = .ok (.istore 4, 2) := by decide +kernel
theorem dX8_power_5 : decode cX8_power 5 = .ok (.iload 4, 2) := by decide +kernel
theorem dX8_power_7 : decode cX8_power 7 = .ok (.iload_n 1, 1) := by decide +kernel
theorem dX8_power_8 : decode cX8_power 8 = .ok (.if_icmp .ge 14, 3) := by decide +kernel
theorem dX8_power_11 : decode cX8_power 11 = .ok (.lload_n 2, 1) := by decide +kernel
theorem dX8_power_12 : decode cX8_power 12 = .ok (.iload_n 0, 1) := by decide +kernel
theorem dX8_power_13 : decode cX8_power 13 = .ok (.i2l, 1) := by decide +kernel
theorem dX8_power_14 : decode cX8_power 14 = .ok (.lmul, 1) := by decide +kernel
theorem dX8_power_15 : decode cX8_power 15 = .ok (.lstore_n 2, 1) := by decide +kernel
theorem dX8_power_16 : decode cX8_power 16 = .ok (.iinc 4 1, 3) := by decide +kernel
theorem dX8_power_19 : decode cX8_power 19 = .ok (.goto (-14), 3) := by decide +kernel
theorem dX8_power_22 : decode cX8_power 22 = .ok (.lload_n 2, 1) := by decide +kernel
theorem dX8_power_23 : decode cX8_power 23 = .ok (.lreturn, 1) := by decide +kernel
def fX8_power_5  : Nat → Int32 → Int32 → Int64 → Int32 → gz_H → Option (Int64 × gz_H)
  | 0, _, _, _, _, _ => none
  | n + 1, x0, x1, x2, x4, h =>
    if x1 ≤ x4 then (
     some (x2, h)
    ) else (
     fX8_power_5 n x0 x1 (x2 * x0.toInt64) (x4 + 1) h
    )
set_option maxRecDepth 100000 in
set_option maxHeartbeats 1000000 in
theorem sX8_power_5 {G : gz_G} {d l0 s0 : Nat} {Q : Int64 → gz_H → Prop} : ∀ (n : Nat) (x0 : Int32) (x1 : Int32) (x2 : Int64) (x4 : Int32) (h : gz_H), gz_g (fX8_power_5  n x0 x1 x2 x4 h) Q → gz_Ok G mX8_power (d + 0, l0, s0, 0, 0) 5 [.int x0, .int x1, .long x2, .retAddr 0, .int x4] [] h (gz_ql Q) := by
  intro n
  induction n with
  | zero => intro x0 x1 x2 x4 h hf; exact False.elim hf
  | succ n ih =>
    intro x0 x1 x2 x4 h hf
    rw [fX8_power_5] at hf
    refine gz_iload (pc := 5) dX8_power_5 rfl ?_
    refine gz_iload_n (pc := 7) dX8_power_7 rfl rfl ?_
    refine gz_icmp_ge (tgt := 22) (pc := 8) dX8_power_8 rfl (fun c_1 => ?_) (fun c_1 => ?_)
    · have hf := gz_gT hf c_1
      refine gz_lload_n (pc := 22) dX8_power_22 rfl rfl ?_
      exact gz_lrt (pc := 23) dX8_power_23 rfl hf
    · have hf := gz_gF hf c_1
      refine gz_lload_n (pc := 11) dX8_power_11 rfl rfl ?_
      refine gz_iload_n (pc := 12) dX8_power_12 rfl rfl ?_
      refine gz_i2l (pc := 13) dX8_power_13 ?_
      refine gz_lmul (pc := 14) dX8_power_14 ?_
      refine gz_lstore_n (lv := [.int x0, .int x1, .long (x2 * x0.toInt64), .retAddr 0, .int x4]) (pc := 15) dX8_power_15 rfl (by decide) rfl ?_
      refine gz_iinc (v := x4 + 1) (lv := [.int x0, .int x1, .long (x2 * x0.toInt64), .retAddr 0, .int (x4 + 1)]) (pc := 16) dX8_power_16 rfl rfl (by decide) rfl ?_
      refine gz_goto (tgt := 5) (pc := 19) dX8_power_19 rfl ?_
      exact ih x0 x1 (x2 * x0.toInt64) (x4 + 1) h hf
def fX8_power_0  (x0 : Int32) (x1 : Int32) (h : gz_H) : Option (Int64 × gz_H) :=
    fX8_power_5 gz_fu x0 x1 (1 : Int64) (0 : Int32) h
set_option maxRecDepth 100000 in
set_option maxHeartbeats 1000000 in
theorem sX8_power_0 {G : gz_G} {d l0 s0 : Nat} {Q : Int64 → gz_H → Prop} (x0 : Int32) (x1 : Int32) (h : gz_H) (hf : gz_g (fX8_power_0  x0 x1 h) Q) : gz_Ok G mX8_power (d + 0, l0, s0, 0, 0) 0 [.int x0, .int x1, .retAddr 0, .retAddr 0, .retAddr 0] [] h (gz_ql Q) := by
  unfold fX8_power_0 at hf
  refine gz_lconst (v := (1 : Int64)) (pc := 0) dX8_power_0 rfl ?_
  refine gz_lstore_n (lv := [.int x0, .int x1, .long (1 : Int64), .retAddr 0, .retAddr 0]) (pc := 1) dX8_power_1 rfl (by decide) rfl ?_
  refine gz_iconst (v := (0 : Int32)) (pc := 2) dX8_power_2 rfl ?_
  refine gz_istore (lv := [.int x0, .int x1, .long (1 : Int64), .retAddr 0, .int (0 : Int32)]) (pc := 3) dX8_power_3 (by decide) rfl ?_
  exact sX8_power_5 gz_fu x0 x1 (1 : Int64) (0 : Int32) h hf
def fX8_power (x0 : Int32) (x1 : Int32) (h : gz_H) : Option (Int64 × gz_H) := fX8_power_0 x0 x1 h
theorem sX8_power {G : gz_G} {d : Nat} {x0 : Int32} {x1 : Int32} {h : gz_H} {Q : Int64 → gz_H → Prop} (hf : gz_g (fX8_power x0 x1 h) Q) : gz_Cl G mX8_power (d + 0) 0 0 [.int x0, .int x1] h (gz_ql Q) := gz_cl_of (lo := [.int x0, .int x1, .retAddr 0, .retAddr 0, .retAddr 0]) (by decide) rfl rfl (Nat.le_of_ble_eq_true rfl) (sX8_power_0 x0 x1 h hf)
theorem dX8_odds_0 : decode cX8_odds 0 = .ok (.aload_n 0, 1) := by decide +kernel
theorem dX8_odds_1 : decode cX8_odds 1 = .ok (.getfield 70, 3) := by decide +kernel
theorem dX8_odds_4 : decode cX8_odds 4 = .ok (.iload_n 1, 1) := by decide +kernel
theorem dX8_odds_5 : decode cX8_odds 5 = .ok (.invokevirtual 220, 3) := by decide +kernel
theorem dX8_odds_8 : decode cX8_odds 8 = .ok (.ifCond .eq 13, 3) := by decide +kernel
theorem dX8_odds_11 : decode cX8_odds 11 = .ok (.iload_n 2, 1) := by decide +kernel
theorem dX8_odds_12 : decode cX8_odds 12 = .ok (.ifCond .lt 9, 3) := by decide +kernel
theorem dX8_odds_15 : decode cX8_odds 15 = .ok (.iload_n 2, 1) := by decide +kernel
theorem dX8_odds_16 : decode cX8_odds 16 = .ok (.bipush 12, 2) := by decide +kernel
theorem dX8_odds_18 : decode cX8_odds 18 = .ok (.if_icmp .le 5, 3) := by decide +kernel
theorem dX8_odds_21 : decode cX8_odds 21 = .ok (.iconst (-1), 1) := by decide +kernel
theorem dX8_odds_22 : decode cX8_odds 22 = .ok (.ireturn, 1) := by decide +kernel
theorem dX8_odds_23 : decode cX8_odds 23 = .ok (.lconst 0, 1) := by decide +kernel
theorem dX8_odds_24 : decode cX8_odds 24 = .ok (.lstore_n 3, 1) := by decide +kernel
theorem dX8_odds_25 : decode cX8_odds 25 = .ok (.iconst 0, 1) := by decide +kernel
theorem dX8_odds_26 : decode cX8_odds 26 = .ok (.istore 5, 2) := by decide +kernel
theorem dX8_odds_28 : decode cX8_odds 28 = .ok (.iload 5, 2) := by decide +kernel
theorem dX8_odds_30 : decode cX8_odds 30 = .ok (.iconst 1, 1) := by decide +kernel
theorem dX8_odds_31 : decode cX8_odds 31 = .ok (.aload_n 0, 1) := by decide +kernel
theorem dX8_odds_32 : decode cX8_odds 32 = .ok (.getfield 70, 3) := by decide +kernel
theorem dX8_odds_35 : decode cX8_odds 35 = .ok (.getfield 149, 3) := by decide +kernel
theorem dX8_odds_38 : decode cX8_odds 38 = .ok (.ishl, 1) := by decide +kernel
theorem dX8_odds_39 : decode cX8_odds 39 = .ok (.if_icmp .ge 38, 3) := by decide +kernel
theorem dX8_odds_42 : decode cX8_odds 42 = .ok (.iload_n 1, 1) := by decide +kernel
theorem dX8_odds_43 : decode cX8_odds 43 = .ok (.aload_n 0, 1) := by decide +kernel
theorem dX8_odds_44 : decode cX8_odds 44 = .ok (.getfield 70, 3) := by decide +kernel
theorem dX8_odds_47 : decode cX8_odds 47 = .ok (.iload 5, 2) := by decide +kernel
theorem dX8_odds_49 : decode cX8_odds 49 = .ok (.invokevirtual 283, 3) := by decide +kernel
theorem dX8_odds_52 : decode cX8_odds 52 = .ok (.iconst (-1), 1) := by decide +kernel
theorem dX8_odds_53 : decode cX8_odds 53 = .ok (.ixor, 1) := by decide +kernel
theorem dX8_odds_54 : decode cX8_odds 54 = .ok (.iand, 1) := by decide +kernel
theorem dX8_odds_55 : decode cX8_odds 55 = .ok (.ifCond .ne 16, 3) := by decide +kernel
theorem dX8_odds_58 : decode cX8_odds 58 = .ok (.lload_n 3, 1) := by decide +kernel
theorem dX8_odds_59 : decode cX8_odds 59 = .ok (.aload_n 0, 1) := by decide +kernel
theorem dX8_odds_60 : decode cX8_odds 60 = .ok (.getfield 70, 3) := by decide +kernel
theorem dX8_odds_63 : decode cX8_odds 63 = .ok (.iload 5, 2) := by decide +kernel
theorem dX8_odds_65 : decode cX8_odds 65 = .ok (.iload_n 2, 1) := by decide +kernel
theorem dX8_odds_66 : decode cX8_odds 66 = .ok (.invokevirtual 286, 3) := by decide +kernel
theorem dX8_odds_69 : decode cX8_odds 69 = .ok (.ladd, 1) := by decide +kernel
theorem dX8_odds_70 : decode cX8_odds 70 = .ok (.lstore_n 3, 1) := by decide +kernel
theorem dX8_odds_71 : decode cX8_odds 71 = .ok (.iinc 5 1, 3) := by decide +kernel
theorem dX8_odds_74 : decode cX8_odds 74 = .ok (.goto (-46), 3) := by decide +kernel
theorem dX8_odds_77 : decode cX8_odds 77 = .ok (.aload_n 0, 1) := by decide +kernel
theorem dX8_odds_78 : decode cX8_odds 78 = .ok (.getfield 38, 3) := by decide +kernel
theorem dX8_odds_81 : decode cX8_odds 81 = .ok (.lload_n 3, 1) := by decide +kernel
theorem dX8_odds_82 : decode cX8_odds 82 = .ok (.bipush 12, 2) := by decide +kernel
theorem dX8_odds_84 : decode cX8_odds 84 = .ok (.aload_n 0, 1) := by decide +kernel
theorem dX8_odds_85 : decode cX8_odds 85 = .ok (.getfield 70, 3) := by decide +kernel
theorem dX8_odds_88 : decode cX8_odds 88 = .ok (.invokevirtual 290, 3) := by decide +kernel
theorem dX8_odds_91 : decode cX8_odds 91 = .ok (.invokestatic 293, 3) := by decide +kernel
theorem dX8_odds_94 : decode cX8_odds 94 = .ok (.invokevirtual 261, 3) := by decide +kernel
theorem dX8_odds_97 : decode cX8_odds 97 = .ok (.iconst 1, 1) := by decide +kernel
theorem dX8_odds_98 : decode cX8_odds 98 = .ok (.ireturn, 1) := by decide +kernel
def fX8_odds_71 (k28 : Nat → Int32 → Int32 → Int64 → Int32 → gz_H → Option (Int32 × gz_H)) (a0 : Nat) (x1 : Int32) (x2 : Int32) (x3 : Int64) (x5 : Int32) (h : gz_H) : Option (Int32 × gz_H) :=
    k28 a0 x1 x2 x3 (x5 + 1) h
set_option maxRecDepth 100000 in
set_option maxHeartbeats 1000000 in
theorem sX8_odds_71 {G : gz_G} {d l0 s0 : Nat} {Q : Int32 → gz_H → Prop} {k28 : Nat → Int32 → Int32 → Int64 → Int32 → gz_H → Option (Int32 × gz_H)} (hk28 : ∀ (a0 : Nat) (x1 : Int32) (x2 : Int32) (x3 : Int64) (x5 : Int32) (h : gz_H), gz_g (k28 a0 x1 x2 x3 x5 h) Q → gz_Ok G mX8_odds (d + 2, l0, s0, 0, 0) 28 [.ref a0, .int x1, .int x2, .long x3, .retAddr 0, .int x5] [] h (gz_qi Q)) (a0 : Nat) (x1 : Int32) (x2 : Int32) (x3 : Int64) (x5 : Int32) (h : gz_H) (hf : gz_g (fX8_odds_71 k28 a0 x1 x2 x3 x5 h) Q) : gz_Ok G mX8_odds (d + 2, l0, s0, 0, 0) 71 [.ref a0, .int x1, .int x2, .long x3, .retAddr 0, .int x5] [] h (gz_qi Q) := by
  unfold fX8_odds_71 at hf
  refine gz_iinc (v := x5 + 1) (lv := [.ref a0, .int x1, .int x2, .long x3, .retAddr 0, .int (x5 + 1)]) (pc := 71) dX8_odds_71 rfl rfl (by decide) rfl ?_
  refine gz_goto (tgt := 28) (pc := 74) dX8_odds_74 rfl ?_
  exact hk28 a0 x1 x2 x3 (x5 + 1) h hf
def fX8_odds_28  : Nat → Nat → Int32 → Int32 → Int64 → Int32 → gz_H → Option (Int32 × gz_H)
  | 0, _, _, _, _, _, _ => none
  | n + 1, a0, x1, x2, x3, x5, h =>
    gz_ck (gz_sh h a0 8 19) <|
    gz_br (h.2.2.2 a0 9) fun r_2 =>
    gz_ck (gz_sh h r_2 1 4) <|
    if ((1 : Int32) <<< ((h.2.1 r_2 3) &&& 31)) ≤ x5 then (
     gz_br (h.2.2.2 a0 4) fun r_5 =>
     gz_b2 (fX1_alive r_2 h) fun y_7 h_6 =>
     gz_b2 (fX8_power (12 : Int32) y_7 h_6) fun y_9 h_8 =>
     gz_ck (gz_sh h_8 r_5 4 2) <|
     gz_b2 (fX4_become r_5 x3 y_9 h_8) fun _ h_10 =>
     some ((1 : Int32), h_10)
    ) else (
     gz_b2 (fX1_heldBySet r_2 x5 h) fun y_14 h_13 =>
     if (x1 &&& (y_14 ^^^ (-1 : Int32))) = 0 then (
      gz_ck (gz_sh h_13 a0 8 19) <|
      gz_br (h_13.2.2.2 a0 9) fun r_17 =>
      gz_ck (gz_sh h_13 r_17 1 4) <|
      gz_b2 (fX1_waysToReturn r_17 x5 x2 h_13) fun y_19 h_18 =>
      fX8_odds_71 (fun z0 z1 z2 z3 z4 zh => fX8_odds_28 n z0 z1 z2 z3 z4 zh) a0 x1 x2 (x3 + y_19) x5 h_18
     ) else (
      fX8_odds_71 (fun z0 z1 z2 z3 z4 zh => fX8_odds_28 n z0 z1 z2 z3 z4 zh) a0 x1 x2 x3 x5 h_13
     )
    )
set_option maxRecDepth 100000 in
set_option maxHeartbeats 1000000 in
theorem sX8_odds_28 {G : gz_G} {d l0 s0 : Nat} {Q : Int32 → gz_H → Prop} : ∀ (n : Nat) (a0 : Nat) (x1 : Int32) (x2 : Int32) (x3 : Int64) (x5 : Int32) (h : gz_H), gz_g (fX8_odds_28  n a0 x1 x2 x3 x5 h) Q → gz_Ok G mX8_odds (d + 2, l0, s0, 0, 0) 28 [.ref a0, .int x1, .int x2, .long x3, .retAddr 0, .int x5] [] h (gz_qi Q) := by
  intro n
  induction n with
  | zero => intro a0 x1 x2 x3 x5 h hf; exact False.elim hf
  | succ n ih =>
    intro a0 x1 x2 x3 x5 h hf
    rw [fX8_odds_28] at hf
    refine gz_iload (pc := 28) dX8_odds_28 rfl ?_
    refine gz_iconst (v := (1 : Int32)) (pc := 30) dX8_odds_30 rfl ?_
    refine gz_aload_n (pc := 31) dX8_odds_31 rfl rfl ?_
    refine gz_gk hf (fun c_1 hf => ?_)
    refine gz_gb hf (fun r_2 er_2 hf => ?_)
    refine gz_getR (pc := 32) dX8_odds_32 fl_RX8_70 rfl (gz_shs c_1) er_2 ?_
    refine gz_gk hf (fun c_3 hf => ?_)
    refine gz_getI (pc := 35) dX8_odds_35 fl_RX8_149 rfl (gz_shs c_3) ?_
    refine gz_ishl (pc := 38) dX8_odds_38 ?_
    refine gz_icmp_ge (tgt := 77) (pc := 39) dX8_odds_39 rfl (fun c_4 => ?_) (fun c_4 => ?_)
    · have hf := gz_gT hf c_4
      refine gz_aload_n (pc := 77) dX8_odds_77 rfl rfl ?_
      refine gz_gb hf (fun r_5 er_5 hf => ?_)
      refine gz_getR (pc := 78) dX8_odds_78 fl_RX8_38 rfl (gz_shs c_1) er_5 ?_
      refine gz_lload_n (pc := 81) dX8_odds_81 rfl rfl ?_
      refine gz_bipush (v := (12 : Int32)) (pc := 82) dX8_odds_82 rfl ?_
      refine gz_aload_n (pc := 84) dX8_odds_84 rfl rfl ?_
      refine gz_getR (pc := 85) dX8_odds_85 fl_RX8_70 rfl (gz_shs c_1) er_2 ?_
      refine gz_cVI (av := []) (st := [.int (12 : Int32), .long x3, .ref r_5]) (pc := 88) dX8_odds_88 kl_RX8_290 rfl (gz_shs c_3) rfl rfl (Nat.le_of_ble_eq_true rfl) (by show d + 0 + 1 + 1 ≤ d + 2; omega) (sX1_alive (d := d + 0) (gz_gc hf)) (fun y_7 h_6 hf => ?_)
      refine gz_cSL (av := [.int (12 : Int32), .int y_7]) (st := [.long x3, .ref r_5]) (pc := 91) dX8_odds_91 kl_RX8_293 rfl rfl (Nat.le_of_ble_eq_true rfl) (by show d + 1 + 0 + 1 ≤ d + 2; omega) (sX8_power (d := d + 1) (gz_gc hf)) (fun y_9 h_8 hf => ?_)
      refine gz_gk hf (fun c_12 hf => ?_)
      refine gz_cVV (av := [.long x3, .long y_9]) (st := []) (pc := 94) dX8_odds_94 kl_RX8_261 rfl (gz_shs c_12) rfl rfl (Nat.le_of_ble_eq_true rfl) (by show d + 0 + 1 + 1 ≤ d + 2; omega) (sX4_become (d := d + 0) (gz_gc hf)) (fun _ h_10 hf => ?_)
      refine gz_iconst (v := (1 : Int32)) (pc := 97) dX8_odds_97 rfl ?_
      exact gz_irt (pc := 98) dX8_odds_98 rfl rfl hf
    · have hf := gz_gF hf c_4
      refine gz_iload_n (pc := 42) dX8_odds_42 rfl rfl ?_
      refine gz_aload_n (pc := 43) dX8_odds_43 rfl rfl ?_
      refine gz_getR (pc := 44) dX8_odds_44 fl_RX8_70 rfl (gz_shs c_1) er_2 ?_
      refine gz_iload (pc := 47) dX8_odds_47 rfl ?_
      refine gz_cVI (av := [.int x5]) (st := [.int x1]) (pc := 49) dX8_odds_49 kl_RX8_283 rfl (gz_shs c_3) rfl rfl (Nat.le_of_ble_eq_true rfl) (by show d + 0 + 1 + 1 ≤ d + 2; omega) (sX1_heldBySet (d := d + 0) (gz_gc hf)) (fun y_14 h_13 hf => ?_)
      refine gz_iconst (v := (-1 : Int32)) (pc := 52) dX8_odds_52 rfl ?_
      refine gz_ixor (pc := 53) dX8_odds_53 ?_
      refine gz_iand (pc := 54) dX8_odds_54 ?_
      refine gz_if_ne (tgt := 71) (pc := 55) dX8_odds_55 rfl (fun c_15 => ?_) (fun c_15 => ?_)
      · have hf := gz_gF hf c_15
        exact sX8_odds_71 ih a0 x1 x2 x3 x5 h_13 hf
      · have hf := gz_gT hf c_15
        refine gz_lload_n (pc := 58) dX8_odds_58 rfl rfl ?_
        refine gz_aload_n (pc := 59) dX8_odds_59 rfl rfl ?_
        refine gz_gk hf (fun c_16 hf => ?_)
        refine gz_gb hf (fun r_17 er_17 hf => ?_)
        refine gz_getR (pc := 60) dX8_odds_60 fl_RX8_70 rfl (gz_shs c_16) er_17 ?_
        refine gz_iload (pc := 63) dX8_odds_63 rfl ?_
        refine gz_iload_n (pc := 65) dX8_odds_65 rfl rfl ?_
        refine gz_gk hf (fun c_20 hf => ?_)
        refine gz_cVL (av := [.int x5, .int x2]) (st := [.long x3]) (pc := 66) dX8_odds_66 kl_RX8_286 rfl (gz_shs c_20) rfl rfl (Nat.le_of_ble_eq_true rfl) (by show d + 1 + 0 + 1 ≤ d + 2; omega) (sX1_waysToReturn (d := d + 1) (gz_gc hf)) (fun y_19 h_18 hf => ?_)
        refine gz_ladd (pc := 69) dX8_odds_69 ?_
        refine gz_lstore_n (lv := [.ref a0, .int x1, .int x2, .long (x3 + y_19), .retAddr 0, .int x5]) (pc := 70) dX8_odds_70 rfl (by decide) rfl ?_
        exact sX8_odds_71 ih a0 x1 x2 (x3 + y_19) x5 h_18 hf
def fX8_odds_0  (a0 : Nat) (x1 : Int32) (x2 : Int32) (h : gz_H) : Option (Int32 × gz_H) :=
    gz_ck (gz_sh h a0 8 19) <|
    gz_br (h.2.2.2 a0 9) fun r_2 =>
    gz_ck (gz_sh h r_2 1 4) <|
    gz_b2 (fX1_hasFactSet r_2 x1 h) fun y_4 h_3 =>
    if y_4 = 0 then (
     some ((-1 : Int32), h_3)
    ) else (
     if x2 < 0 then (
      some ((-1 : Int32), h_3)
     ) else (
      if x2 ≤ (12 : Int32) then (
       fX8_odds_28 gz_fu a0 x1 x2 (0 : Int64) (0 : Int32) h_3
      ) else (
       some ((-1 : Int32), h_3)
      )
     )
    )
set_option maxRecDepth 100000 in
set_option maxHeartbeats 1000000 in
theorem sX8_odds_0 {G : gz_G} {d l0 s0 : Nat} {Q : Int32 → gz_H → Prop} (a0 : Nat) (x1 : Int32) (x2 : Int32) (h : gz_H) (hf : gz_g (fX8_odds_0  a0 x1 x2 h) Q) : gz_Ok G mX8_odds (d + 2, l0, s0, 0, 0) 0 [.ref a0, .int x1, .int x2, .retAddr 0, .retAddr 0, .retAddr 0] [] h (gz_qi Q) := by
  unfold fX8_odds_0 at hf
  refine gz_aload_n (pc := 0) dX8_odds_0 rfl rfl ?_
  refine gz_gk hf (fun c_1 hf => ?_)
  refine gz_gb hf (fun r_2 er_2 hf => ?_)
  refine gz_getR (pc := 1) dX8_odds_1 fl_RX8_70 rfl (gz_shs c_1) er_2 ?_
  refine gz_iload_n (pc := 4) dX8_odds_4 rfl rfl ?_
  refine gz_gk hf (fun c_5 hf => ?_)
  refine gz_cVI (av := [.int x1]) (st := []) (pc := 5) dX8_odds_5 kl_RX8_220 rfl (gz_shs c_5) rfl rfl (Nat.le_of_ble_eq_true rfl) (by show d + 1 + 0 + 1 ≤ d + 2; omega) (sX1_hasFactSet (d := d + 1) (gz_gc hf)) (fun y_4 h_3 hf => ?_)
  refine gz_if_eq (tgt := 21) (pc := 8) dX8_odds_8 rfl (fun c_6 => ?_) (fun c_6 => ?_)
  · have hf := gz_gT hf c_6
    refine gz_iconst (v := (-1 : Int32)) (pc := 21) dX8_odds_21 rfl ?_
    exact gz_irt (pc := 22) dX8_odds_22 rfl rfl hf
  · have hf := gz_gF hf c_6
    refine gz_iload_n (pc := 11) dX8_odds_11 rfl rfl ?_
    refine gz_if_lt (tgt := 21) (pc := 12) dX8_odds_12 rfl (fun c_7 => ?_) (fun c_7 => ?_)
    · have hf := gz_gT hf c_7
      refine gz_iconst (v := (-1 : Int32)) (pc := 21) dX8_odds_21 rfl ?_
      exact gz_irt (pc := 22) dX8_odds_22 rfl rfl hf
    · have hf := gz_gF hf c_7
      refine gz_iload_n (pc := 15) dX8_odds_15 rfl rfl ?_
      refine gz_bipush (v := (12 : Int32)) (pc := 16) dX8_odds_16 rfl ?_
      refine gz_icmp_le (tgt := 23) (pc := 18) dX8_odds_18 rfl (fun c_8 => ?_) (fun c_8 => ?_)
      · have hf := gz_gT hf c_8
        refine gz_lconst (v := (0 : Int64)) (pc := 23) dX8_odds_23 rfl ?_
        refine gz_lstore_n (lv := [.ref a0, .int x1, .int x2, .long (0 : Int64), .retAddr 0, .retAddr 0]) (pc := 24) dX8_odds_24 rfl (by decide) rfl ?_
        refine gz_iconst (v := (0 : Int32)) (pc := 25) dX8_odds_25 rfl ?_
        refine gz_istore (lv := [.ref a0, .int x1, .int x2, .long (0 : Int64), .retAddr 0, .int (0 : Int32)]) (pc := 26) dX8_odds_26 (by decide) rfl ?_
        exact sX8_odds_28 gz_fu a0 x1 x2 (0 : Int64) (0 : Int32) h_3 hf
      · have hf := gz_gF hf c_8
        refine gz_iconst (v := (-1 : Int32)) (pc := 21) dX8_odds_21 rfl ?_
        exact gz_irt (pc := 22) dX8_odds_22 rfl rfl hf
def fX8_odds (a0 : Nat) (x1 : Int32) (x2 : Int32) (h : gz_H) : Option (Int32 × gz_H) := fX8_odds_0 a0 x1 x2 h
theorem sX8_odds {G : gz_G} {d : Nat} {a0 : Nat} {x1 : Int32} {x2 : Int32} {h : gz_H} {Q : Int32 → gz_H → Prop} (hf : gz_g (fX8_odds a0 x1 x2 h) Q) : gz_Cl G mX8_odds (d + 2) 0 0 [.ref a0, .int x1, .int x2] h (gz_qi Q) := gz_cl_of (lo := [.ref a0, .int x1, .int x2, .retAddr 0, .retAddr 0, .retAddr 0]) (by decide) rfl rfl (Nat.le_of_ble_eq_true rfl) (sX8_odds_0 a0 x1 x2 h hf)
theorem dX8_mid_0 : decode cX8_mid 0 = .ok (.iload_n 1, 1) := by decide +kernel
theorem dX8_mid_1 : decode cX8_mid 1 = .ok (.ifCond .lt 9, 3) := by decide +kernel
theorem dX8_mid_4 : decode cX8_mid 4 = .ok (.iload_n 1, 1) := by decide +kernel
theorem dX8_mid_5 : decode cX8_mid 5 = .ok (.bipush 12, 2) := by decide +kernel
theorem dX8_mid_7 : decode cX8_mid 7 = .ok (.if_icmp .le 5, 3) := by decide +kernel
theorem dX8_mid_10 : decode cX8_mid 10 = .ok (.iconst (-1), 1) := by decide +kernel
theorem dX8_mid_11 : decode cX8_mid 11 = .ok (.ireturn, 1) := by decide +kernel
theorem dX8_mid_12 : decode cX8_mid 12 = .ok (.lconst 0, 1) := by decide +kernel
theorem dX8_mid_13 : decode cX8_mid 13 = .ok (.lstore_n 2, 1) := by decide +kernel
theorem dX8_mid_14 : decode cX8_mid 14 = .ok (.iconst 0, 1) := by decide +kernel
theorem dX8_mid_15 : decode cX8_mid 15 = .ok (.istore 4, 2) := by decide +kernel
theorem dX8_mid_17 : decode cX8_mid 17 = .ok (.iload 4, 2) := by decide +kernel
theorem dX8_mid_19 : decode cX8_mid 19 = .ok (.iconst 1, 1) := by decide +kernel
theorem dX8_mid_20 : decode cX8_mid 20 = .ok (.aload_n 0, 1) := by decide +kernel
theorem dX8_mid_21 : decode cX8_mid 21 = .ok (.getfield 70, 3) := by decide +kernel
theorem dX8_mid_24 : decode cX8_mid 24 = .ok (.getfield 149, 3) := by decide +kernel
theorem dX8_mid_27 : decode cX8_mid 27 = .ok (.ishl, 1) := by decide +kernel
theorem dX8_mid_28 : decode cX8_mid 28 = .ok (.if_icmp .ge 36, 3) := by decide +kernel
theorem dX8_mid_31 : decode cX8_mid 31 = .ok (.lload_n 2, 1) := by decide +kernel
theorem dX8_mid_32 : decode cX8_mid 32 = .ok (.aload_n 0, 1) := by decide +kernel
theorem dX8_mid_33 : decode cX8_mid 33 = .ok (.getfield 70, 3) := by decide +kernel
theorem dX8_mid_36 : decode cX8_mid 36 = .ok (.iload 4, 2) := by decide +kernel
theorem dX8_mid_38 : decode cX8_mid 38 = .ok (.iload_n 1, 1) := by decide +kernel
theorem dX8_mid_39 : decode cX8_mid 39 = .ok (.invokevirtual 286, 3) := by decide +kernel
theorem dX8_mid_42 : decode cX8_mid 42 = .ok (.aload_n 0, 1) := by decide +kernel
theorem dX8_mid_43 : decode cX8_mid 43 = .ok (.getfield 70, 3) := by decide +kernel
theorem dX8_mid_46 : decode cX8_mid 46 = .ok (.iload 4, 2) := by decide +kernel
theorem dX8_mid_48 : decode cX8_mid 48 = .ok (.invokevirtual 283, 3) := by decide +kernel
theorem dX8_mid_51 : decode cX8_mid 51 = .ok (.invokestatic 226, 3) := by decide +kernel
theorem dX8_mid_54 : decode cX8_mid 54 = .ok (.i2l, 1) := by decide +kernel
theorem dX8_mid_55 : decode cX8_mid 55 = .ok (.lmul, 1) := by decide +kernel
theorem dX8_mid_56 : decode cX8_mid 56 = .ok (.ladd, 1) := by decide +kernel
theorem dX8_mid_57 : decode cX8_mid 57 = .ok (.lstore_n 2, 1) := by decide +kernel
theorem dX8_mid_58 : decode cX8_mid 58 = .ok (.iinc 4 1, 3) := by decide +kernel
theorem dX8_mid_61 : decode cX8_mid 61 = .ok (.goto (-44), 3) := by decide +kernel
theorem dX8_mid_64 : decode cX8_mid 64 = .ok (.aload_n 0, 1) := by decide +kernel
theorem dX8_mid_65 : decode cX8_mid 65 = .ok (.getfield 38, 3) := by decide +kernel
theorem dX8_mid_68 : decode cX8_mid 68 = .ok (.lload_n 2, 1) := by decide +kernel
theorem dX8_mid_69 : decode cX8_mid 69 = .ok (.bipush 12, 2) := by decide +kernel
theorem dX8_mid_71 : decode cX8_mid 71 = .ok (.aload_n 0, 1) := by decide +kernel
theorem dX8_mid_72 : decode cX8_mid 72 = .ok (.getfield 70, 3) := by decide +kernel
theorem dX8_mid_75 : decode cX8_mid 75 = .ok (.invokevirtual 290, 3) := by decide +kernel
theorem dX8_mid_78 : decode cX8_mid 78 = .ok (.invokestatic 293, 3) := by decide +kernel
theorem dX8_mid_81 : decode cX8_mid 81 = .ok (.invokevirtual 261, 3) := by decide +kernel
theorem dX8_mid_84 : decode cX8_mid 84 = .ok (.iconst 1, 1) := by decide +kernel
theorem dX8_mid_85 : decode cX8_mid 85 = .ok (.ireturn, 1) := by decide +kernel
def fX8_mid_17  : Nat → Nat → Int32 → Int64 → Int32 → gz_H → Option (Int32 × gz_H)
  | 0, _, _, _, _, _ => none
  | n + 1, a0, x1, x2, x4, h =>
    gz_ck (gz_sh h a0 8 19) <|
    gz_br (h.2.2.2 a0 9) fun r_2 =>
    gz_ck (gz_sh h r_2 1 4) <|
    if ((1 : Int32) <<< ((h.2.1 r_2 3) &&& 31)) ≤ x4 then (
     gz_br (h.2.2.2 a0 4) fun r_5 =>
     gz_b2 (fX1_alive r_2 h) fun y_7 h_6 =>
     gz_b2 (fX8_power (12 : Int32) y_7 h_6) fun y_9 h_8 =>
     gz_ck (gz_sh h_8 r_5 4 2) <|
     gz_b2 (fX4_become r_5 x2 y_9 h_8) fun _ h_10 =>
     some ((1 : Int32), h_10)
    ) else (
     gz_b2 (fX1_waysToReturn r_2 x4 x1 h) fun y_14 h_13 =>
     gz_ck (gz_sh h_13 a0 8 19) <|
     gz_br (h_13.2.2.2 a0 9) fun r_16 =>
     gz_ck (gz_sh h_13 r_16 1 4) <|
     gz_b2 (fX1_heldBySet r_16 x4 h_13) fun y_18 h_17 =>
     gz_b2 (fJ6_bitCount_0f7a4 y_18 h_17) fun y_21 h_20 =>
     fX8_mid_17 n a0 x1 (x2 + (y_14 * y_21.toInt64)) (x4 + 1) h_20
    )
set_option maxRecDepth 100000 in
set_option maxHeartbeats 1000000 in
theorem sX8_mid_17 {G : gz_G} {d l0 s0 : Nat} {Q : Int32 → gz_H → Prop} : ∀ (n : Nat) (a0 : Nat) (x1 : Int32) (x2 : Int64) (x4 : Int32) (h : gz_H), gz_g (fX8_mid_17  n a0 x1 x2 x4 h) Q → gz_Ok G mX8_mid (d + 2, l0, s0, 0, 0) 17 [.ref a0, .int x1, .long x2, .retAddr 0, .int x4] [] h (gz_qi Q) := by
  intro n
  induction n with
  | zero => intro a0 x1 x2 x4 h hf; exact False.elim hf
  | succ n ih =>
    intro a0 x1 x2 x4 h hf
    rw [fX8_mid_17] at hf
    refine gz_iload (pc := 17) dX8_mid_17 rfl ?_
    refine gz_iconst (v := (1 : Int32)) (pc := 19) dX8_mid_19 rfl ?_
    refine gz_aload_n (pc := 20) dX8_mid_20 rfl rfl ?_
    refine gz_gk hf (fun c_1 hf => ?_)
    refine gz_gb hf (fun r_2 er_2 hf => ?_)
    refine gz_getR (pc := 21) dX8_mid_21 fl_RX8_70 rfl (gz_shs c_1) er_2 ?_
    refine gz_gk hf (fun c_3 hf => ?_)
    refine gz_getI (pc := 24) dX8_mid_24 fl_RX8_149 rfl (gz_shs c_3) ?_
    refine gz_ishl (pc := 27) dX8_mid_27 ?_
    refine gz_icmp_ge (tgt := 64) (pc := 28) dX8_mid_28 rfl (fun c_4 => ?_) (fun c_4 => ?_)
    · have hf := gz_gT hf c_4
      refine gz_aload_n (pc := 64) dX8_mid_64 rfl rfl ?_
      refine gz_gb hf (fun r_5 er_5 hf => ?_)
      refine gz_getR (pc := 65) dX8_mid_65 fl_RX8_38 rfl (gz_shs c_1) er_5 ?_
      refine gz_lload_n (pc := 68) dX8_mid_68 rfl rfl ?_
      refine gz_bipush (v := (12 : Int32)) (pc := 69) dX8_mid_69 rfl ?_
      refine gz_aload_n (pc := 71) dX8_mid_71 rfl rfl ?_
      refine gz_getR (pc := 72) dX8_mid_72 fl_RX8_70 rfl (gz_shs c_1) er_2 ?_
      refine gz_cVI (av := []) (st := [.int (12 : Int32), .long x2, .ref r_5]) (pc := 75) dX8_mid_75 kl_RX8_290 rfl (gz_shs c_3) rfl rfl (Nat.le_of_ble_eq_true rfl) (by show d + 0 + 1 + 1 ≤ d + 2; omega) (sX1_alive (d := d + 0) (gz_gc hf)) (fun y_7 h_6 hf => ?_)
      refine gz_cSL (av := [.int (12 : Int32), .int y_7]) (st := [.long x2, .ref r_5]) (pc := 78) dX8_mid_78 kl_RX8_293 rfl rfl (Nat.le_of_ble_eq_true rfl) (by show d + 1 + 0 + 1 ≤ d + 2; omega) (sX8_power (d := d + 1) (gz_gc hf)) (fun y_9 h_8 hf => ?_)
      refine gz_gk hf (fun c_12 hf => ?_)
      refine gz_cVV (av := [.long x2, .long y_9]) (st := []) (pc := 81) dX8_mid_81 kl_RX8_261 rfl (gz_shs c_12) rfl rfl (Nat.le_of_ble_eq_true rfl) (by show d + 0 + 1 + 1 ≤ d + 2; omega) (sX4_become (d := d + 0) (gz_gc hf)) (fun _ h_10 hf => ?_)
      refine gz_iconst (v := (1 : Int32)) (pc := 84) dX8_mid_84 rfl ?_
      exact gz_irt (pc := 85) dX8_mid_85 rfl rfl hf
    · have hf := gz_gF hf c_4
      refine gz_lload_n (pc := 31) dX8_mid_31 rfl rfl ?_
      refine gz_aload_n (pc := 32) dX8_mid_32 rfl rfl ?_
      refine gz_getR (pc := 33) dX8_mid_33 fl_RX8_70 rfl (gz_shs c_1) er_2 ?_
      refine gz_iload (pc := 36) dX8_mid_36 rfl ?_
      refine gz_iload_n (pc := 38) dX8_mid_38 rfl rfl ?_
      refine gz_cVL (av := [.int x4, .int x1]) (st := [.long x2]) (pc := 39) dX8_mid_39 kl_RX8_286 rfl (gz_shs c_3) rfl rfl (Nat.le_of_ble_eq_true rfl) (by show d + 1 + 0 + 1 ≤ d + 2; omega) (sX1_waysToReturn (d := d + 1) (gz_gc hf)) (fun y_14 h_13 hf => ?_)
      refine gz_aload_n (pc := 42) dX8_mid_42 rfl rfl ?_
      refine gz_gk hf (fun c_15 hf => ?_)
      refine gz_gb hf (fun r_16 er_16 hf => ?_)
      refine gz_getR (pc := 43) dX8_mid_43 fl_RX8_70 rfl (gz_shs c_15) er_16 ?_
      refine gz_iload (pc := 46) dX8_mid_46 rfl ?_
      refine gz_gk hf (fun c_19 hf => ?_)
      refine gz_cVI (av := [.int x4]) (st := [.long y_14, .long x2]) (pc := 48) dX8_mid_48 kl_RX8_283 rfl (gz_shs c_19) rfl rfl (Nat.le_of_ble_eq_true rfl) (by show d + 0 + 1 + 1 ≤ d + 2; omega) (sX1_heldBySet (d := d + 0) (gz_gc hf)) (fun y_18 h_17 hf => ?_)
      refine gz_cSI (av := [.int y_18]) (st := [.long y_14, .long x2]) (pc := 51) dX8_mid_51 kl_RX8_226 rfl rfl (Nat.le_of_ble_eq_true rfl) (by show d + 1 + 0 + 1 ≤ d + 2; omega) (sJ6_bitCount_0f7a4 (d := d + 1) (gz_gc hf)) (fun y_21 h_20 hf => ?_)
      refine gz_i2l (pc := 54) dX8_mid_54 ?_
      refine gz_lmul (pc := 55) dX8_mid_55 ?_
      refine gz_ladd (pc := 56) dX8_mid_56 ?_
      refine gz_lstore_n (lv := [.ref a0, .int x1, .long (x2 + (y_14 * y_21.toInt64)), .retAddr 0, .int x4]) (pc := 57) dX8_mid_57 rfl (by decide) rfl ?_
      refine gz_iinc (v := x4 + 1) (lv := [.ref a0, .int x1, .long (x2 + (y_14 * y_21.toInt64)), .retAddr 0, .int (x4 + 1)]) (pc := 58) dX8_mid_58 rfl rfl (by decide) rfl ?_
      refine gz_goto (tgt := 17) (pc := 61) dX8_mid_61 rfl ?_
      exact ih a0 x1 (x2 + (y_14 * y_21.toInt64)) (x4 + 1) h_20 hf
def fX8_mid_0  (a0 : Nat) (x1 : Int32) (h : gz_H) : Option (Int32 × gz_H) :=
    if x1 < 0 then (
     some ((-1 : Int32), h)
    ) else (
     if x1 ≤ (12 : Int32) then (
      fX8_mid_17 gz_fu a0 x1 (0 : Int64) (0 : Int32) h
     ) else (
      some ((-1 : Int32), h)
     )
    )
set_option maxRecDepth 100000 in
set_option maxHeartbeats 1000000 in
theorem sX8_mid_0 {G : gz_G} {d l0 s0 : Nat} {Q : Int32 → gz_H → Prop} (a0 : Nat) (x1 : Int32) (h : gz_H) (hf : gz_g (fX8_mid_0  a0 x1 h) Q) : gz_Ok G mX8_mid (d + 2, l0, s0, 0, 0) 0 [.ref a0, .int x1, .retAddr 0, .retAddr 0, .retAddr 0] [] h (gz_qi Q) := by
  unfold fX8_mid_0 at hf
  refine gz_iload_n (pc := 0) dX8_mid_0 rfl rfl ?_
  refine gz_if_lt (tgt := 10) (pc := 1) dX8_mid_1 rfl (fun c_1 => ?_) (fun c_1 => ?_)
  · have hf := gz_gT hf c_1
    refine gz_iconst (v := (-1 : Int32)) (pc := 10) dX8_mid_10 rfl ?_
    exact gz_irt (pc := 11) dX8_mid_11 rfl rfl hf
  · have hf := gz_gF hf c_1
    refine gz_iload_n (pc := 4) dX8_mid_4 rfl rfl ?_
    refine gz_bipush (v := (12 : Int32)) (pc := 5) dX8_mid_5 rfl ?_
    refine gz_icmp_le (tgt := 12) (pc := 7) dX8_mid_7 rfl (fun c_2 => ?_) (fun c_2 => ?_)
    · have hf := gz_gT hf c_2
      refine gz_lconst (v := (0 : Int64)) (pc := 12) dX8_mid_12 rfl ?_
      refine gz_lstore_n (lv := [.ref a0, .int x1, .long (0 : Int64), .retAddr 0, .retAddr 0]) (pc := 13) dX8_mid_13 rfl (by decide) rfl ?_
      refine gz_iconst (v := (0 : Int32)) (pc := 14) dX8_mid_14 rfl ?_
      refine gz_istore (lv := [.ref a0, .int x1, .long (0 : Int64), .retAddr 0, .int (0 : Int32)]) (pc := 15) dX8_mid_15 (by decide) rfl ?_
      exact sX8_mid_17 gz_fu a0 x1 (0 : Int64) (0 : Int32) h hf
    · have hf := gz_gF hf c_2
      refine gz_iconst (v := (-1 : Int32)) (pc := 10) dX8_mid_10 rfl ?_
      exact gz_irt (pc := 11) dX8_mid_11 rfl rfl hf
def fX8_mid (a0 : Nat) (x1 : Int32) (h : gz_H) : Option (Int32 × gz_H) := fX8_mid_0 a0 x1 h
theorem sX8_mid {G : gz_G} {d : Nat} {a0 : Nat} {x1 : Int32} {h : gz_H} {Q : Int32 → gz_H → Prop} (hf : gz_g (fX8_mid a0 x1 h) Q) : gz_Cl G mX8_mid (d + 2) 0 0 [.ref a0, .int x1] h (gz_qi Q) := gz_cl_of (lo := [.ref a0, .int x1, .retAddr 0, .retAddr 0, .retAddr 0]) (by decide) rfl rfl (Nat.le_of_ble_eq_true rfl) (sX8_mid_0 a0 x1 h hf)
theorem dX8_doByLot_0 : decode cX8_doByLot 0 = .ok (.aload_n 0, 1) := by decide +kernel
theorem dX8_doByLot_1 : decode cX8_doByLot 1 = .ok (.getfield 70, 3) := by decide +kernel
theorem dX8_doByLot_4 : decode cX8_doByLot 4 = .ok (.invokevirtual 183, 3) := by decide +kernel
theorem dX8_doByLot_7 : decode cX8_doByLot 7 = .ok (.ifCond .ne 4, 3) := by decide +kernel
theorem dX8_doByLot_10 : decode cX8_doByLot 10 = .ok (.return_, 1) := by decide +kernel
theorem dX8_doByLot_11 : decode cX8_doByLot 11 = .ok (.lload_n 1, 1) := by decide +kernel
theorem dX8_doByLot_12 : decode cX8_doByLot 12 = .ok (.aload_n 0, 1) := by decide +kernel
theorem dX8_doByLot_13 : decode cX8_doByLot 13 = .ok (.getfield 70, 3) := by decide +kernel
theorem dX8_doByLot_16 : decode cX8_doByLot 16 = .ok (.getfield 149, 3) := by decide +kernel
theorem dX8_doByLot_19 : decode cX8_doByLot 19 = .ok (.i2l, 1) := by decide +kernel
theorem dX8_doByLot_20 : decode cX8_doByLot 20 = .ok (.lrem, 1) := by decide +kernel
theorem dX8_doByLot_21 : decode cX8_doByLot 21 = .ok (.l2i, 1) := by decide +kernel
theorem dX8_doByLot_22 : decode cX8_doByLot 22 = .ok (.istore_n 3, 1) := by decide +kernel
theorem dX8_doByLot_23 : decode cX8_doByLot 23 = .ok (.aload_n 0, 1) := by decide +kernel
theorem dX8_doByLot_24 : decode cX8_doByLot 24 = .ok (.getfield 70, 3) := by decide +kernel
theorem dX8_doByLot_27 : decode cX8_doByLot 27 = .ok (.getfield 153, 3) := by decide +kernel
theorem dX8_doByLot_30 : decode cX8_doByLot 30 = .ok (.iload_n 3, 1) := by decide +kernel
theorem dX8_doByLot_31 : decode cX8_doByLot 31 = .ok (.aaload, 1) := by decide +kernel
theorem dX8_doByLot_32 : decode cX8_doByLot 32 = .ok (.getfield 179, 3) := by decide +kernel
theorem dX8_doByLot_35 : decode cX8_doByLot 35 = .ok (.ifCond .eq 4, 3) := by decide +kernel
theorem dX8_doByLot_38 : decode cX8_doByLot 38 = .ok (.return_, 1) := by decide +kernel
theorem dX8_doByLot_39 : decode cX8_doByLot 39 = .ok (.lload_n 1, 1) := by decide +kernel
theorem dX8_doByLot_40 : decode cX8_doByLot 40 = .ok (.ldc2_w 352, 3) := by decide +kernel
theorem dX8_doByLot_43 : decode cX8_doByLot 43 = .ok (.ldiv, 1) := by decide +kernel
theorem dX8_doByLot_44 : decode cX8_doByLot 44 = .ok (.ldc2_w 354, 3) := by decide +kernel
theorem dX8_doByLot_47 : decode cX8_doByLot 47 = .ok (.lrem, 1) := by decide +kernel
theorem dX8_doByLot_48 : decode cX8_doByLot 48 = .ok (.lconst 0, 1) := by decide +kernel
theorem dX8_doByLot_49 : decode cX8_doByLot 49 = .ok (.lcmp, 1) := by decide +kernel
theorem dX8_doByLot_50 : decode cX8_doByLot 50 = .ok (.ifCond .ne 14, 3) := by decide +kernel
theorem dX8_doByLot_53 : decode cX8_doByLot 53 = .ok (.aload_n 0, 1) := by decide +kernel
theorem dX8_doByLot_54 : decode cX8_doByLot 54 = .ok (.iconst 1, 1) := by decide +kernel
theorem dX8_doByLot_55 : decode cX8_doByLot 55 = .ok (.iload_n 3, 1) := by decide +kernel
theorem dX8_doByLot_56 : decode cX8_doByLot 56 = .ok (.iconst 0, 1) := by decide +kernel
theorem dX8_doByLot_57 : decode cX8_doByLot 57 = .ok (.invokevirtual 175, 3) := by decide +kernel
theorem dX8_doByLot_60 : decode cX8_doByLot 60 = .ok (.pop, 1) := by decide +kernel
theorem dX8_doByLot_61 : decode cX8_doByLot 61 = .ok (.goto 25, 3) := by decide +kernel
theorem dX8_doByLot_64 : decode cX8_doByLot 64 = .ok (.aload_n 0, 1) := by decide +kernel
theorem dX8_doByLot_65 : decode cX8_doByLot 65 = .ok (.iconst 0, 1) := by decide +kernel
theorem dX8_doByLot_66 : decode cX8_doByLot 66 = .ok (.iload_n 3, 1) := by decide +kernel
theorem dX8_doByLot_67 : decode cX8_doByLot 67 = .ok (.lload_n 1, 1) := by decide +kernel
theorem dX8_doByLot_68 : decode cX8_doByLot 68 = .ok (.ldc2_w 356, 3) := by decide +kernel
theorem dX8_doByLot_71 : decode cX8_doByLot 71 = .ok (.ldiv, 1) := by decide +kernel
theorem dX8_doByLot_72 : decode cX8_doByLot 72 = .ok (.aload_n 0, 1) := by decide +kernel
theorem dX8_doByLot_73 : decode cX8_doByLot 73 = .ok (.getfield 70, 3) := by decide +kernel
theorem dX8_doByLot_76 : decode cX8_doByLot 76 = .ok (.getfield 245, 3) := by decide +kernel
theorem dX8_doByLot_79 : decode cX8_doByLot 79 = .ok (.i2l, 1) := by decide +kernel
theorem dX8_doByLot_80 : decode cX8_doByLot 80 = .ok (.lrem, 1) := by decide +kernel
theorem dX8_doByLot_81 : decode cX8_doByLot 81 = .ok (.l2i, 1) := by decide +kernel
theorem dX8_doByLot_82 : decode cX8_doByLot 82 = .ok (.invokevirtual 175, 3) := by decide +kernel
theorem dX8_doByLot_85 : decode cX8_doByLot 85 = .ok (.pop, 1) := by decide +kernel
theorem dX8_doByLot_86 : decode cX8_doByLot 86 = .ok (.return_, 1) := by decide +kernel
def fX8_doByLot_0  (a0 : Nat) (x1 : Int64) (h : gz_H) : Option (Unit × gz_H) :=
    gz_ck (gz_sh h a0 8 19) <|
    gz_br (h.2.2.2 a0 9) fun r_2 =>
    gz_ck (gz_sh h r_2 1 4) <|
    gz_b2 (fX1_hasGeese r_2 h) fun y_4 h_3 =>
    if y_4 = 0 then (
     some ((), h_3)
    ) else (
     gz_ck (gz_sh h_3 a0 8 19) <|
     gz_br (h_3.2.2.2 a0 9) fun r_8 =>
     gz_ck (gz_sh h_3 r_8 1 4) <|
     gz_ck (gz_nzL ((h_3.2.1 r_8 3).toInt64)) <|
     gz_lt ((x1 - x1 / ((h_3.2.1 r_8 3).toInt64) * ((h_3.2.1 r_8 3).toInt64)).toInt32) fun (y_11 : Int32) =>
     gz_br (h_3.2.2.2 r_8 1) fun r_12 =>
     gz_ck (gz_inb h_3 r_12 11 y_11) <|
     gz_br (h_3.2.2.2 r_12 y_11.toNatClampNeg) fun r_14 =>
     gz_ck (gz_sh h_3 r_14 2 6) <|
     if (h_3.2.1 r_14 5) = 0 then (
      if (lg_cmp ((x1 / (8 : Int64)) - (x1 / (8 : Int64)) / (4 : Int64) * (4 : Int64)) (0 : Int64)) = 0 then (
       gz_b2 (fX8_doDeed a0 (1 : Int32) y_11 (0 : Int32) h_3) fun y_22 h_21 =>
       some ((), h_21)
      ) else (
       gz_ck (gz_nzL ((h_3.2.1 r_8 2).toInt64)) <|
       gz_b2 (fX8_doDeed a0 (0 : Int32) y_11 (((x1 / (64 : Int64)) - (x1 / (64 : Int64)) / ((h_3.2.1 r_8 2).toInt64) * ((h_3.2.1 r_8 2).toInt64)).toInt32) h_3) fun y_20 h_19 =>
       some ((), h_19)
      )
     ) else (
      some ((), h_3)
     )
    )
set_option maxRecDepth 100000 in
set_option maxHeartbeats 1000000 in
theorem sX8_doByLot_0 {G : gz_G} {d l0 s0 : Nat} {Q : Unit → gz_H → Prop} (a0 : Nat) (x1 : Int64) (h : gz_H) (hf : gz_g (fX8_doByLot_0  a0 x1 h) Q) : gz_Ok G mX8_doByLot (d + 7, l0, s0, 0, 0) 0 [.ref a0, .long x1, .retAddr 0, .retAddr 0] [] h (gz_qu Q) := by
  unfold fX8_doByLot_0 at hf
  refine gz_aload_n (pc := 0) dX8_doByLot_0 rfl rfl ?_
  refine gz_gk hf (fun c_1 hf => ?_)
  refine gz_gb hf (fun r_2 er_2 hf => ?_)
  refine gz_getR (pc := 1) dX8_doByLot_1 fl_RX8_70 rfl (gz_shs c_1) er_2 ?_
  refine gz_gk hf (fun c_5 hf => ?_)
  refine gz_cVI (av := []) (st := []) (pc := 4) dX8_doByLot_4 kl_RX8_183 rfl (gz_shs c_5) rfl rfl (Nat.le_of_ble_eq_true rfl) (by show d + 6 + 0 + 1 ≤ d + 7; omega) (sX1_hasGeese (d := d + 6) (gz_gc hf)) (fun y_4 h_3 hf => ?_)
  refine gz_if_ne (tgt := 11) (pc := 7) dX8_doByLot_7 rfl (fun c_6 => ?_) (fun c_6 => ?_)
  · have hf := gz_gF hf c_6
    refine gz_lload_n (pc := 11) dX8_doByLot_11 rfl rfl ?_
    refine gz_aload_n (pc := 12) dX8_doByLot_12 rfl rfl ?_
    refine gz_gk hf (fun c_7 hf => ?_)
    refine gz_gb hf (fun r_8 er_8 hf => ?_)
    refine gz_getR (pc := 13) dX8_doByLot_13 fl_RX8_70 rfl (gz_shs c_7) er_8 ?_
    refine gz_gk hf (fun c_9 hf => ?_)
    refine gz_getI (pc := 16) dX8_doByLot_16 fl_RX8_149 rfl (gz_shs c_9) ?_
    refine gz_i2l (pc := 19) dX8_doByLot_19 ?_
    refine gz_gk hf (fun c_10 hf => ?_)
    refine gz_lrem (pc := 20) dX8_doByLot_20 (gz_nzLs c_10) ?_
    refine gz_l2i (pc := 21) dX8_doByLot_21 ?_
    refine gz_nmI (fun y_11 ey_11 => ?_)
    have hf := gz_gl ey_11 hf
    refine gz_istore_n (lv := [.ref a0, .long x1, .retAddr 0, .int y_11]) (pc := 22) dX8_doByLot_22 rfl (by decide) rfl ?_
    refine gz_aload_n (pc := 23) dX8_doByLot_23 rfl rfl ?_
    refine gz_getR (pc := 24) dX8_doByLot_24 fl_RX8_70 rfl (gz_shs c_7) er_8 ?_
    refine gz_gb hf (fun r_12 er_12 hf => ?_)
    refine gz_getR (pc := 27) dX8_doByLot_27 fl_RX8_153 rfl (gz_shs c_9) er_12 ?_
    refine gz_iload_n (pc := 30) dX8_doByLot_30 rfl rfl ?_
    refine gz_gk hf (fun c_13 hf => ?_)
    refine gz_gb hf (fun r_14 er_14 hf => ?_)
    refine gz_aald (Or.inl rfl) (pc := 31) dX8_doByLot_31 c_13 er_14 ?_
    refine gz_gk hf (fun c_15 hf => ?_)
    refine gz_getI (pc := 32) dX8_doByLot_32 fl_RX8_179 rfl (gz_shs c_15) ?_
    refine gz_if_eq (tgt := 39) (pc := 35) dX8_doByLot_35 rfl (fun c_16 => ?_) (fun c_16 => ?_)
    · have hf := gz_gT hf c_16
      refine gz_lload_n (pc := 39) dX8_doByLot_39 rfl rfl ?_
      refine gz_ldc2 (v := (8 : Int64)) (pc := 40) dX8_doByLot_40 kc_RX8_352 ?_
      refine gz_ldiv (pc := 43) dX8_doByLot_43 (by decide) ?_
      refine gz_ldc2 (v := (4 : Int64)) (pc := 44) dX8_doByLot_44 kc_RX8_354 ?_
      refine gz_lrem (pc := 47) dX8_doByLot_47 (by decide) ?_
      refine gz_lconst (v := (0 : Int64)) (pc := 48) dX8_doByLot_48 rfl ?_
      refine gz_lcmp (pc := 49) dX8_doByLot_49 ?_
      refine gz_if_ne (tgt := 64) (pc := 50) dX8_doByLot_50 rfl (fun c_17 => ?_) (fun c_17 => ?_)
      · have hf := gz_gF hf c_17
        refine gz_aload_n (pc := 64) dX8_doByLot_64 rfl rfl ?_
        refine gz_iconst (v := (0 : Int32)) (pc := 65) dX8_doByLot_65 rfl ?_
        refine gz_iload_n (pc := 66) dX8_doByLot_66 rfl rfl ?_
        refine gz_lload_n (pc := 67) dX8_doByLot_67 rfl rfl ?_
        refine gz_ldc2 (v := (64 : Int64)) (pc := 68) dX8_doByLot_68 kc_RX8_356 ?_
        refine gz_ldiv (pc := 71) dX8_doByLot_71 (by decide) ?_
        refine gz_aload_n (pc := 72) dX8_doByLot_72 rfl rfl ?_
        refine gz_getR (pc := 73) dX8_doByLot_73 fl_RX8_70 rfl (gz_shs c_7) er_8 ?_
        refine gz_getI (pc := 76) dX8_doByLot_76 fl_RX8_245 rfl (gz_shs c_9) ?_
        refine gz_i2l (pc := 79) dX8_doByLot_79 ?_
        refine gz_gk hf (fun c_18 hf => ?_)
        refine gz_lrem (pc := 80) dX8_doByLot_80 (gz_nzLs c_18) ?_
        refine gz_l2i (pc := 81) dX8_doByLot_81 ?_
        refine gz_cVI (av := [.int (0 : Int32), .int y_11, .int (((x1 / (64 : Int64)) - (x1 / (64 : Int64)) / ((h_3.2.1 r_8 2).toInt64) * ((h_3.2.1 r_8 2).toInt64)).toInt32)]) (st := []) (pc := 82) dX8_doByLot_82 kl_RX8_175 rfl (gz_shs c_7) rfl rfl (Nat.le_of_ble_eq_true rfl) (by show d + 0 + 6 + 1 ≤ d + 7; omega) (sX8_doDeed (d := d + 0) (gz_gc hf)) (fun y_20 h_19 hf => ?_)
        refine gz_pop (pc := 85) dX8_doByLot_85 rfl ?_
        exact gz_uret (pc := 86) dX8_doByLot_86 rfl hf
      · have hf := gz_gT hf c_17
        refine gz_aload_n (pc := 53) dX8_doByLot_53 rfl rfl ?_
        refine gz_iconst (v := (1 : Int32)) (pc := 54) dX8_doByLot_54 rfl ?_
        refine gz_iload_n (pc := 55) dX8_doByLot_55 rfl rfl ?_
        refine gz_iconst (v := (0 : Int32)) (pc := 56) dX8_doByLot_56 rfl ?_
        refine gz_cVI (av := [.int (1 : Int32), .int y_11, .int (0 : Int32)]) (st := []) (pc := 57) dX8_doByLot_57 kl_RX8_175 rfl (gz_shs c_7) rfl rfl (Nat.le_of_ble_eq_true rfl) (by show d + 0 + 6 + 1 ≤ d + 7; omega) (sX8_doDeed (d := d + 0) (gz_gc hf)) (fun y_22 h_21 hf => ?_)
        refine gz_pop (pc := 60) dX8_doByLot_60 rfl ?_
        refine gz_goto (tgt := 86) (pc := 61) dX8_doByLot_61 rfl ?_
        exact gz_uret (pc := 86) dX8_doByLot_86 rfl hf
    · have hf := gz_gF hf c_16
      exact gz_uret (pc := 38) dX8_doByLot_38 rfl hf
  · have hf := gz_gT hf c_6
    exact gz_uret (pc := 10) dX8_doByLot_10 rfl hf
def fX8_doByLot (a0 : Nat) (x1 : Int64) (h : gz_H) : Option (Unit × gz_H) := fX8_doByLot_0 a0 x1 h
theorem sX8_doByLot {G : gz_G} {d : Nat} {a0 : Nat} {x1 : Int64} {h : gz_H} {Q : Unit → gz_H → Prop} (hf : gz_g (fX8_doByLot a0 x1 h) Q) : gz_Cl G mX8_doByLot (d + 7) 0 0 [.ref a0, .long x1] h (gz_qu Q) := gz_cl_of (lo := [.ref a0, .long x1, .retAddr 0, .retAddr 0]) (by decide) rfl rfl (Nat.le_of_ble_eq_true rfl) (sX8_doByLot_0 a0 x1 h hf)
theorem dX8_lots_0 : decode cX8_lots 0 = .ok (.iload_n 1, 1) := by decide +kernel
theorem dX8_lots_1 : decode cX8_lots 1 = .ok (.iconst 1, 1) := by decide +kernel
theorem dX8_lots_2 : decode cX8_lots 2 = .ok (.if_icmp .lt 21, 3) := by decide +kernel
theorem dX8_lots_5 : decode cX8_lots 5 = .ok (.iload_n 1, 1) := by decide +kernel
theorem dX8_lots_6 : decode cX8_lots 6 = .ok (.bipush 12, 2) := by decide +kernel
theorem dX8_lots_8 : decode cX8_lots 8 = .ok (.if_icmp .gt 15, 3) := by decide +kernel
theorem dX8_lots_11 : decode cX8_lots 11 = .ok (.iload_n 2, 1) := by decide +kernel
theorem dX8_lots_12 : decode cX8_lots 12 = .ok (.iconst 1, 1) := by decide +kernel
theorem dX8_lots_13 : decode cX8_lots 13 = .ok (.if_icmp .lt 10, 3) := by decide +kernel
theorem dX8_lots_16 : decode cX8_lots 16 = .ok (.iload_n 2, 1) := by decide +kernel
theorem dX8_lots_17 : decode cX8_lots 17 = .ok (.ldc_w 296, 3) := by decide +kernel
theorem dX8_lots_20 : decode cX8_lots 20 = .ok (.if_icmp .le 5, 3) := by decide +kernel
theorem dX8_lots_23 : decode cX8_lots 23 = .ok (.iconst (-1), 1) := by decide +kernel
theorem dX8_lots_24 : decode cX8_lots 24 = .ok (.ireturn, 1) := by decide +kernel
theorem dX8_lots_25 : decode cX8_lots 25 = .ok (.aload_n 0, 1) := by decide +kernel
theorem dX8_lots_26 : decode cX8_lots 26 = .ok (.getfield 70, 3) := by decide +kernel
theorem dX8_lots_29 : decode cX8_lots 29 = .ok (.invokevirtual 183, 3) := by decide +kernel
theorem dX8_lots_32 : decode cX8_lots 32 = .ok (.ifCond .ne 6, 3) := by decide +kernel
theorem dX8_lots_35 : decode cX8_lots 35 = .ok (.bipush (-4), 2) := by decide +kernel
theorem dX8_lots_37 : decode cX8_lots 37 = .ok (.ireturn, 1) := by decide +kernel
theorem dX8_lots_38 : decode cX8_lots 38 = .ok (.aload_n 0, 1) := by decide +kernel
theorem dX8_lots_39 : decode cX8_lots 39 = .ok (.getfield 59, 3) := by decide +kernel
theorem dX8_lots_42 : decode cX8_lots 42 = .ok (.getfield 99, 3) := by decide +kernel
theorem dX8_lots_45 : decode cX8_lots 45 = .ok (.iload_n 1, 1) := by decide +kernel
theorem dX8_lots_46 : decode cX8_lots 46 = .ok (.iadd, 1) := by decide +kernel
theorem dX8_lots_47 : decode cX8_lots 47 = .ok (.bipush 40, 2) := by decide +kernel
theorem dX8_lots_49 : decode cX8_lots 49 = .ok (.if_icmp .le 6, 3) := by decide +kernel
theorem dX8_lots_52 : decode cX8_lots 52 = .ok (.bipush (-2), 2) := by decide +kernel
theorem dX8_lots_54 : decode cX8_lots 54 = .ok (.ireturn, 1) := by decide +kernel
theorem dX8_lots_55 : decode cX8_lots 55 = .ok (.iload_n 2, 1) := by decide +kernel
theorem dX8_lots_56 : decode cX8_lots 56 = .ok (.i2l, 1) := by decide +kernel
theorem dX8_lots_57 : decode cX8_lots 57 = .ok (.lstore_n 3, 1) := by decide +kernel
theorem dX8_lots_58 : decode cX8_lots 58 = .ok (.iconst 0, 1) := by decide +kernel
theorem dX8_lots_59 : decode cX8_lots 59 = .ok (.istore 5, 2) := by decide +kernel
theorem dX8_lots_61 : decode cX8_lots 61 = .ok (.iload 5, 2) := by decide +kernel
theorem dX8_lots_63 : decode cX8_lots 63 = .ok (.iload_n 1, 1) := by decide +kernel
theorem dX8_lots_64 : decode cX8_lots 64 = .ok (.if_icmp .ge 24, 3) := by decide +kernel
theorem dX8_lots_67 : decode cX8_lots 67 = .ok (.lload_n 3, 1) := by decide +kernel
theorem dX8_lots_68 : decode cX8_lots 68 = .ok (.ldc2_w 297, 3) := by decide +kernel
theorem dX8_lots_71 : decode cX8_lots 71 = .ok (.lmul, 1) := by decide +kernel
theorem dX8_lots_72 : decode cX8_lots 72 = .ok (.ldc2_w 299, 3) := by decide +kernel
theorem dX8_lots_75 : decode cX8_lots 75 = .ok (.lrem, 1) := by decide +kernel
theorem dX8_lots_76 : decode cX8_lots 76 = .ok (.lstore_n 3, 1) := by decide +kernel
theorem dX8_lots_77 : decode cX8_lots 77 = .ok (.aload_n 0, 1) := by decide +kernel
theorem dX8_lots_78 : decode cX8_lots 78 = .ok (.lload_n 3, 1) := by decide +kernel
theorem dX8_lots_79 : decode cX8_lots 79 = .ok (.invokevirtual 301, 3) := by decide +kernel
theorem dX8_lots_82 : decode cX8_lots 82 = .ok (.iinc 5 1, 3) := by decide +kernel
theorem dX8_lots_85 : decode cX8_lots 85 = .ok (.goto (-24), 3) := by decide +kernel
theorem dX8_lots_88 : decode cX8_lots 88 = .ok (.aload_n 0, 1) := by decide +kernel
theorem dX8_lots_89 : decode cX8_lots 89 = .ok (.getfield 70, 3) := by decide +kernel
theorem dX8_lots_92 : decode cX8_lots 92 = .ok (.invokevirtual 210, 3) := by decide +kernel
theorem dX8_lots_95 : decode cX8_lots 95 = .ok (.invokestatic 226, 3) := by decide +kernel
theorem dX8_lots_98 : decode cX8_lots 98 = .ok (.ireturn, 1) := by decide +kernel
def fX8_lots_61  : Nat → Nat → Int32 → Int64 → Int32 → gz_H → Option (Int32 × gz_H)
  | 0, _, _, _, _, _ => none
  | n + 1, a0, x1, x3, x5, h =>
    if x1 ≤ x5 then (
     gz_ck (gz_sh h a0 8 19) <|
     gz_br (h.2.2.2 a0 9) fun r_3 =>
     gz_ck (gz_sh h r_3 1 4) <|
     gz_b2 (fX1_heldByNobody r_3 h) fun y_5 h_4 =>
     gz_b2 (fJ6_bitCount_0f7a4 y_5 h_4) fun y_8 h_7 =>
     some (y_8, h_7)
    ) else (
     gz_lt ((x3 * (48271 : Int64)) - (x3 * (48271 : Int64)) / (2147483647 : Int64) * (2147483647 : Int64)) fun (y_9 : Int64) =>
     gz_ck (gz_sh h a0 8 19) <|
     gz_b2 (fX8_doByLot a0 y_9 h) fun _ h_10 =>
     fX8_lots_61 n a0 x1 y_9 (x5 + 1) h_10
    )
set_option maxRecDepth 100000 in
set_option maxHeartbeats 1000000 in
theorem sX8_lots_61 {G : gz_G} {d l0 s0 : Nat} {Q : Int32 → gz_H → Prop} : ∀ (n : Nat) (a0 : Nat) (x1 : Int32) (x3 : Int64) (x5 : Int32) (h : gz_H), gz_g (fX8_lots_61  n a0 x1 x3 x5 h) Q → gz_Ok G mX8_lots (d + 8, l0, s0, 0, 0) 61 [.ref a0, .int x1, .retAddr 0, .long x3, .retAddr 0, .int x5] [] h (gz_qi Q) := by
  intro n
  induction n with
  | zero => intro a0 x1 x3 x5 h hf; exact False.elim hf
  | succ n ih =>
    intro a0 x1 x3 x5 h hf
    rw [fX8_lots_61] at hf
    refine gz_iload (pc := 61) dX8_lots_61 rfl ?_
    refine gz_iload_n (pc := 63) dX8_lots_63 rfl rfl ?_
    refine gz_icmp_ge (tgt := 88) (pc := 64) dX8_lots_64 rfl (fun c_1 => ?_) (fun c_1 => ?_)
    · have hf := gz_gT hf c_1
      refine gz_aload_n (pc := 88) dX8_lots_88 rfl rfl ?_
      refine gz_gk hf (fun c_2 hf => ?_)
      refine gz_gb hf (fun r_3 er_3 hf => ?_)
      refine gz_getR (pc := 89) dX8_lots_89 fl_RX8_70 rfl (gz_shs c_2) er_3 ?_
      refine gz_gk hf (fun c_6 hf => ?_)
      refine gz_cVI (av := []) (st := []) (pc := 92) dX8_lots_92 kl_RX8_210 rfl (gz_shs c_6) rfl rfl (Nat.le_of_ble_eq_true rfl) (by show d + 4 + 3 + 1 ≤ d + 8; omega) (sX1_heldByNobody (d := d + 4) (gz_gc hf)) (fun y_5 h_4 hf => ?_)
      refine gz_cSI (av := [.int y_5]) (st := []) (pc := 95) dX8_lots_95 kl_RX8_226 rfl rfl (Nat.le_of_ble_eq_true rfl) (by show d + 7 + 0 + 1 ≤ d + 8; omega) (sJ6_bitCount_0f7a4 (d := d + 7) (gz_gc hf)) (fun y_8 h_7 hf => ?_)
      exact gz_irt (pc := 98) dX8_lots_98 rfl rfl hf
    · have hf := gz_gF hf c_1
      refine gz_lload_n (pc := 67) dX8_lots_67 rfl rfl ?_
      refine gz_ldc2 (v := (48271 : Int64)) (pc := 68) dX8_lots_68 kc_RX8_297 ?_
      refine gz_lmul (pc := 71) dX8_lots_71 ?_
      refine gz_ldc2 (v := (2147483647 : Int64)) (pc := 72) dX8_lots_72 kc_RX8_299 ?_
      refine gz_lrem (pc := 75) dX8_lots_75 (by decide) ?_
      refine gz_nmL (fun y_9 ey_9 => ?_)
      have hf := gz_gl ey_9 hf
      refine gz_lstore_n (lv := [.ref a0, .int x1, .retAddr 0, .long y_9, .retAddr 0, .int x5]) (pc := 76) dX8_lots_76 rfl (by decide) rfl ?_
      refine gz_aload_n (pc := 77) dX8_lots_77 rfl rfl ?_
      refine gz_lload_n (pc := 78) dX8_lots_78 rfl rfl ?_
      refine gz_gk hf (fun c_12 hf => ?_)
      refine gz_cVV (av := [.long y_9]) (st := []) (pc := 79) dX8_lots_79 kl_RX8_301 rfl (gz_shs c_12) rfl rfl (Nat.le_of_ble_eq_true rfl) (by show d + 0 + 7 + 1 ≤ d + 8; omega) (sX8_doByLot (d := d + 0) (gz_gc hf)) (fun _ h_10 hf => ?_)
      refine gz_iinc (v := x5 + 1) (lv := [.ref a0, .int x1, .retAddr 0, .long y_9, .retAddr 0, .int (x5 + 1)]) (pc := 82) dX8_lots_82 rfl rfl (by decide) rfl ?_
      refine gz_goto (tgt := 61) (pc := 85) dX8_lots_85 rfl ?_
      exact ih a0 x1 y_9 (x5 + 1) h_10 hf
def fX8_lots_0  (a0 : Nat) (x1 : Int32) (x2 : Int32) (h : gz_H) : Option (Int32 × gz_H) :=
    if x1 < (1 : Int32) then (
     some ((-1 : Int32), h)
    ) else (
     if (12 : Int32) < x1 then (
      some ((-1 : Int32), h)
     ) else (
      if x2 < (1 : Int32) then (
       some ((-1 : Int32), h)
      ) else (
       if x2 ≤ (2147483646 : Int32) then (
        gz_ck (gz_sh h a0 8 19) <|
        gz_br (h.2.2.2 a0 9) fun r_6 =>
        gz_ck (gz_sh h r_6 1 4) <|
        gz_b2 (fX1_hasGeese r_6 h) fun y_8 h_7 =>
        if y_8 = 0 then (
         some ((-4 : Int32), h_7)
        ) else (
         gz_ck (gz_sh h_7 a0 8 19) <|
         gz_br (h_7.2.2.2 a0 7) fun r_12 =>
         gz_ck (gz_sh h_7 r_12 3 2) <|
         if ((h_7.2.1 r_12 1) + x1) ≤ (40 : Int32) then (
          fX8_lots_61 gz_fu a0 x1 x2.toInt64 (0 : Int32) h_7
         ) else (
          some ((-2 : Int32), h_7)
         )
        )
       ) else (
        some ((-1 : Int32), h)
       )
      )
     )
    )
set_option maxRecDepth 100000 in
set_option maxHeartbeats 1000000 in
theorem sX8_lots_0 {G : gz_G} {d l0 s0 : Nat} {Q : Int32 → gz_H → Prop} (a0 : Nat) (x1 : Int32) (x2 : Int32) (h : gz_H) (hf : gz_g (fX8_lots_0  a0 x1 x2 h) Q) : gz_Ok G mX8_lots (d + 8, l0, s0, 0, 0) 0 [.ref a0, .int x1, .int x2, .retAddr 0, .retAddr 0, .retAddr 0] [] h (gz_qi Q) := by
  unfold fX8_lots_0 at hf
  refine gz_iload_n (pc := 0) dX8_lots_0 rfl rfl ?_
  refine gz_iconst (v := (1 : Int32)) (pc := 1) dX8_lots_1 rfl ?_
  refine gz_icmp_lt (tgt := 23) (pc := 2) dX8_lots_2 rfl (fun c_1 => ?_) (fun c_1 => ?_)
  · have hf := gz_gT hf c_1
    refine gz_iconst (v := (-1 : Int32)) (pc := 23) dX8_lots_23 rfl ?_
    exact gz_irt (pc := 24) dX8_lots_24 rfl rfl hf
  · have hf := gz_gF hf c_1
    refine gz_iload_n (pc := 5) dX8_lots_5 rfl rfl ?_
    refine gz_bipush (v := (12 : Int32)) (pc := 6) dX8_lots_6 rfl ?_
    refine gz_icmp_gt (tgt := 23) (pc := 8) dX8_lots_8 rfl (fun c_2 => ?_) (fun c_2 => ?_)
    · have hf := gz_gT hf c_2
      refine gz_iconst (v := (-1 : Int32)) (pc := 23) dX8_lots_23 rfl ?_
      exact gz_irt (pc := 24) dX8_lots_24 rfl rfl hf
    · have hf := gz_gF hf c_2
      refine gz_iload_n (pc := 11) dX8_lots_11 rfl rfl ?_
      refine gz_iconst (v := (1 : Int32)) (pc := 12) dX8_lots_12 rfl ?_
      refine gz_icmp_lt (tgt := 23) (pc := 13) dX8_lots_13 rfl (fun c_3 => ?_) (fun c_3 => ?_)
      · have hf := gz_gT hf c_3
        refine gz_iconst (v := (-1 : Int32)) (pc := 23) dX8_lots_23 rfl ?_
        exact gz_irt (pc := 24) dX8_lots_24 rfl rfl hf
      · have hf := gz_gF hf c_3
        refine gz_iload_n (pc := 16) dX8_lots_16 rfl rfl ?_
        refine gz_ldcw (v := (2147483646 : Int32)) (pc := 17) dX8_lots_17 kc_RX8_296 ?_
        refine gz_icmp_le (tgt := 25) (pc := 20) dX8_lots_20 rfl (fun c_4 => ?_) (fun c_4 => ?_)
        · have hf := gz_gT hf c_4
          refine gz_aload_n (pc := 25) dX8_lots_25 rfl rfl ?_
          refine gz_gk hf (fun c_5 hf => ?_)
          refine gz_gb hf (fun r_6 er_6 hf => ?_)
          refine gz_getR (pc := 26) dX8_lots_26 fl_RX8_70 rfl (gz_shs c_5) er_6 ?_
          refine gz_gk hf (fun c_9 hf => ?_)
          refine gz_cVI (av := []) (st := []) (pc := 29) dX8_lots_29 kl_RX8_183 rfl (gz_shs c_9) rfl rfl (Nat.le_of_ble_eq_true rfl) (by show d + 7 + 0 + 1 ≤ d + 8; omega) (sX1_hasGeese (d := d + 7) (gz_gc hf)) (fun y_8 h_7 hf => ?_)
          refine gz_if_ne (tgt := 38) (pc := 32) dX8_lots_32 rfl (fun c_10 => ?_) (fun c_10 => ?_)
          · have hf := gz_gF hf c_10
            refine gz_aload_n (pc := 38) dX8_lots_38 rfl rfl ?_
            refine gz_gk hf (fun c_11 hf => ?_)
            refine gz_gb hf (fun r_12 er_12 hf => ?_)
            refine gz_getR (pc := 39) dX8_lots_39 fl_RX8_59 rfl (gz_shs c_11) er_12 ?_
            refine gz_gk hf (fun c_13 hf => ?_)
            refine gz_getI (pc := 42) dX8_lots_42 fl_RX8_99 rfl (gz_shs c_13) ?_
            refine gz_iload_n (pc := 45) dX8_lots_45 rfl rfl ?_
            refine gz_iadd (pc := 46) dX8_lots_46 ?_
            refine gz_bipush (v := (40 : Int32)) (pc := 47) dX8_lots_47 rfl ?_
            refine gz_icmp_le (tgt := 55) (pc := 49) dX8_lots_49 rfl (fun c_14 => ?_) (fun c_14 => ?_)
            · have hf := gz_gT hf c_14
              refine gz_iload_n (pc := 55) dX8_lots_55 rfl rfl ?_
              refine gz_i2l (pc := 56) dX8_lots_56 ?_
              refine gz_lstore_n (lv := [.ref a0, .int x1, .int x2, .long x2.toInt64, .retAddr 0, .retAddr 0]) (pc := 57) dX8_lots_57 rfl (by decide) rfl ?_
              refine gz_iconst (v := (0 : Int32)) (pc := 58) dX8_lots_58 rfl ?_
              refine gz_istore (lv := [.ref a0, .int x1, .int x2, .long x2.toInt64, .retAddr 0, .int (0 : Int32)]) (pc := 59) dX8_lots_59 (by decide) rfl ?_
              refine gz_fg (lv := [.ref a0, .int x1, .retAddr 0, .long x2.toInt64, .retAddr 0, .int (0 : Int32)]) ⟨Or.inr rfl, ⟨Or.inr rfl, ⟨Or.inl rfl, ⟨Or.inr rfl, ⟨Or.inl rfl, ⟨Or.inr rfl, trivial⟩⟩⟩⟩⟩⟩ ?_
              exact sX8_lots_61 gz_fu a0 x1 x2.toInt64 (0 : Int32) h_7 hf
            · have hf := gz_gF hf c_14
              refine gz_bipush (v := (-2 : Int32)) (pc := 52) dX8_lots_52 rfl ?_
              exact gz_irt (pc := 54) dX8_lots_54 rfl rfl hf
          · have hf := gz_gT hf c_10
            refine gz_bipush (v := (-4 : Int32)) (pc := 35) dX8_lots_35 rfl ?_
            exact gz_irt (pc := 37) dX8_lots_37 rfl rfl hf
        · have hf := gz_gF hf c_4
          refine gz_iconst (v := (-1 : Int32)) (pc := 23) dX8_lots_23 rfl ?_
          exact gz_irt (pc := 24) dX8_lots_24 rfl rfl hf
def fX8_lots (a0 : Nat) (x1 : Int32) (x2 : Int32) (h : gz_H) : Option (Int32 × gz_H) := fX8_lots_0 a0 x1 x2 h
theorem sX8_lots {G : gz_G} {d : Nat} {a0 : Nat} {x1 : Int32} {x2 : Int32} {h : gz_H} {Q : Int32 → gz_H → Prop} (hf : gz_g (fX8_lots a0 x1 x2 h) Q) : gz_Cl G mX8_lots (d + 8) 0 0 [.ref a0, .int x1, .int x2] h (gz_qi Q) := gz_cl_of (lo := [.ref a0, .int x1, .int x2, .retAddr 0, .retAddr 0, .retAddr 0]) (by decide) rfl rfl (Nat.le_of_ble_eq_true rfl) (sX8_lots_0 a0 x1 x2 h hf)
theorem dX8_asked_0 : decode cX8_asked 0 = .ok (.aload_n 0, 1) := by decide +kernel
theorem dX8_asked_1 : decode cX8_asked 1 = .ok (.getfield 115, 3) := by decide +kernel
theorem dX8_asked_4 : decode cX8_asked 4 = .ok (.ireturn, 1) := by decide +kernel
def fX8_asked_0  (a0 : Nat) (h : gz_H) : Option (Int32 × gz_H) :=
    gz_ck (gz_sh h a0 8 19) <|
    some (h.2.1 a0 18, h)
set_option maxRecDepth 100000 in
set_option maxHeartbeats 1000000 in
theorem sX8_asked_0 {G : gz_G} {d l0 s0 : Nat} {Q : Int32 → gz_H → Prop} (a0 : Nat) (h : gz_H) (hf : gz_g (fX8_asked_0  a0 h) Q) : gz_Ok G mX8_asked (d + 0, l0, s0, 0, 0) 0 [.ref a0] [] h (gz_qi Q) := by
  unfold fX8_asked_0 at hf
  refine gz_aload_n (pc := 0) dX8_asked_0 rfl rfl ?_
  refine gz_gk hf (fun c_1 hf => ?_)
  refine gz_getI (pc := 1) dX8_asked_1 fl_RX8_115 rfl (gz_shs c_1) ?_
  exact gz_irt (pc := 4) dX8_asked_4 rfl rfl hf
def fX8_asked (a0 : Nat) (h : gz_H) : Option (Int32 × gz_H) := fX8_asked_0 a0 h
theorem sX8_asked {G : gz_G} {d : Nat} {a0 : Nat} {h : gz_H} {Q : Int32 → gz_H → Prop} (hf : gz_g (fX8_asked a0 h) Q) : gz_Cl G mX8_asked (d + 0) 0 0 [.ref a0] h (gz_qi Q) := gz_cl_of (lo := [.ref a0]) (by decide) rfl rfl (Nat.le_of_ble_eq_true rfl) (sX8_asked_0 a0 h hf)
theorem dX8_upper_0 : decode cX8_upper 0 = .ok (.aload_n 0, 1) := by decide +kernel
theorem dX8_upper_1 : decode cX8_upper 1 = .ok (.getfield 38, 3) := by decide +kernel
theorem dX8_upper_4 : decode cX8_upper 4 = .ok (.getfield 305, 3) := by decide +kernel
theorem dX8_upper_7 : decode cX8_upper 7 = .ok (.lreturn, 1) := by decide +kernel
def fX8_upper_0  (a0 : Nat) (h : gz_H) : Option (Int64 × gz_H) :=
    gz_ck (gz_sh h a0 8 19) <|
    gz_br (h.2.2.2 a0 4) fun r_2 =>
    gz_ck (gz_sh h r_2 4 2) <|
    some (h.2.2.1 r_2 0, h)
set_option maxRecDepth 100000 in
set_option maxHeartbeats 1000000 in
theorem sX8_upper_0 {G : gz_G} {d l0 s0 : Nat} {Q : Int64 → gz_H → Prop} (a0 : Nat) (h : gz_H) (hf : gz_g (fX8_upper_0  a0 h) Q) : gz_Ok G mX8_upper (d + 0, l0, s0, 0, 0) 0 [.ref a0] [] h (gz_ql Q) := by
  unfold fX8_upper_0 at hf
  refine gz_aload_n (pc := 0) dX8_upper_0 rfl rfl ?_
  refine gz_gk hf (fun c_1 hf => ?_)
  refine gz_gb hf (fun r_2 er_2 hf => ?_)
  refine gz_getR (pc := 1) dX8_upper_1 fl_RX8_38 rfl (gz_shs c_1) er_2 ?_
  refine gz_gk hf (fun c_3 hf => ?_)
  refine gz_getL (pc := 4) dX8_upper_4 fl_RX8_305 rfl (gz_shs c_3) ?_
  exact gz_lrt (pc := 7) dX8_upper_7 rfl hf
def fX8_upper (a0 : Nat) (h : gz_H) : Option (Int64 × gz_H) := fX8_upper_0 a0 h
theorem sX8_upper {G : gz_G} {d : Nat} {a0 : Nat} {h : gz_H} {Q : Int64 → gz_H → Prop} (hf : gz_g (fX8_upper a0 h) Q) : gz_Cl G mX8_upper (d + 0) 0 0 [.ref a0] h (gz_ql Q) := gz_cl_of (lo := [.ref a0]) (by decide) rfl rfl (Nat.le_of_ble_eq_true rfl) (sX8_upper_0 a0 h hf)
theorem dX8_lower_0 : decode cX8_lower 0 = .ok (.aload_n 0, 1) := by decide +kernel
theorem dX8_lower_1 : decode cX8_lower 1 = .ok (.getfield 38, 3) := by decide +kernel
theorem dX8_lower_4 : decode cX8_lower 4 = .ok (.getfield 309, 3) := by decide +kernel
theorem dX8_lower_7 : decode cX8_lower 7 = .ok (.lreturn, 1) := by decide +kernel
def fX8_lower_0  (a0 : Nat) (h : gz_H) : Option (Int64 × gz_H) :=
    gz_ck (gz_sh h a0 8 19) <|
    gz_br (h.2.2.2 a0 4) fun r_2 =>
    gz_ck (gz_sh h r_2 4 2) <|
    some (h.2.2.1 r_2 1, h)
set_option maxRecDepth 100000 in
set_option maxHeartbeats 1000000 in
theorem sX8_lower_0 {G : gz_G} {d l0 s0 : Nat} {Q : Int64 → gz_H → Prop} (a0 : Nat) (h : gz_H) (hf : gz_g (fX8_lower_0  a0 h) Q) : gz_Ok G mX8_lower (d + 0, l0, s0, 0, 0) 0 [.ref a0] [] h (gz_ql Q) := by
  unfold fX8_lower_0 at hf
  refine gz_aload_n (pc := 0) dX8_lower_0 rfl rfl ?_
  refine gz_gk hf (fun c_1 hf => ?_)
  refine gz_gb hf (fun r_2 er_2 hf => ?_)
  refine gz_getR (pc := 1) dX8_lower_1 fl_RX8_38 rfl (gz_shs c_1) er_2 ?_
  refine gz_gk hf (fun c_3 hf => ?_)
  refine gz_getL (pc := 4) dX8_lower_4 fl_RX8_309 rfl (gz_shs c_3) ?_
  exact gz_lrt (pc := 7) dX8_lower_7 rfl hf
def fX8_lower (a0 : Nat) (h : gz_H) : Option (Int64 × gz_H) := fX8_lower_0 a0 h
theorem sX8_lower {G : gz_G} {d : Nat} {a0 : Nat} {h : gz_H} {Q : Int64 → gz_H → Prop} (hf : gz_g (fX8_lower a0 h) Q) : gz_Cl G mX8_lower (d + 0) 0 0 [.ref a0] h (gz_ql Q) := gz_cl_of (lo := [.ref a0]) (by decide) rfl rfl (Nat.le_of_ble_eq_true rfl) (sX8_lower_0 a0 h hf)
theorem dX8_keptFlocks_0 : decode cX8_keptFlocks 0 = .ok (.iconst 0, 1) := by decide +kernel
theorem dX8_keptFlocks_1 : decode cX8_keptFlocks 1 = .ok (.istore_n 1, 1) := by decide +kernel
theorem dX8_keptFlocks_2 : decode cX8_keptFlocks 2 = .ok (.iconst 0, 1) := by decide +kernel
theorem dX8_keptFlocks_3 : decode cX8_keptFlocks 3 = .ok (.istore_n 2, 1) := by decide +kernel
theorem dX8_keptFlocks_4 : decode cX8_keptFlocks 4 = .ok (.iload_n 2, 1) := by decide +kernel
theorem dX8_keptFlocks_5 : decode cX8_keptFlocks 5 = .ok (.iconst 3, 1) := by decide +kernel
theorem dX8_keptFlocks_6 : decode cX8_keptFlocks 6 = .ok (.if_icmp .ge 25, 3) := by decide +kernel
theorem dX8_keptFlocks_9 : decode cX8_keptFlocks 9 = .ok (.aload_n 0, 1) := by decide +kernel
theorem dX8_keptFlocks_10 : decode cX8_keptFlocks 10 = .ok (.getfield 63, 3) := by decide +kernel
theorem dX8_keptFlocks_13 : decode cX8_keptFlocks 13 = .ok (.iload_n 2, 1) := by decide +kernel
theorem dX8_keptFlocks_14 : decode cX8_keptFlocks 14 = .ok (.aaload, 1) := by decide +kernel
theorem dX8_keptFlocks_15 : decode cX8_keptFlocks 15 = .ok (.getfield 99, 3) := by decide +kernel
theorem dX8_keptFlocks_18 : decode cX8_keptFlocks 18 = .ok (.iconst (-1), 1) := by decide +kernel
theorem dX8_keptFlocks_19 : decode cX8_keptFlocks 19 = .ok (.if_icmp .eq 6, 3) := by decide +kernel
theorem dX8_keptFlocks_22 : decode cX8_keptFlocks 22 = .ok (.iinc 1 1, 3) := by decide +kernel
theorem dX8_keptFlocks_25 : decode cX8_keptFlocks 25 = .ok (.iinc 2 1, 3) := by decide +kernel
theorem dX8_keptFlocks_28 : decode cX8_keptFlocks 28 = .ok (.goto (-24), 3) := by decide +kernel
theorem dX8_keptFlocks_31 : decode cX8_keptFlocks 31 = .ok (.iload_n 1, 1) := by decide +kernel
theorem dX8_keptFlocks_32 : decode cX8_keptFlocks 32 = .ok (.ireturn, 1) := by decide +kernel
def fX8_keptFlocks_25 (k4 : Nat → Int32 → Int32 → gz_H → Option (Int32 × gz_H)) (a0 : Nat) (x1 : Int32) (x2 : Int32) (h : gz_H) : Option (Int32 × gz_H) :=
    k4 a0 x1 (x2 + 1) h
set_option maxRecDepth 100000 in
set_option maxHeartbeats 1000000 in
theorem sX8_keptFlocks_25 {G : gz_G} {d l0 s0 : Nat} {Q : Int32 → gz_H → Prop} {k4 : Nat → Int32 → Int32 → gz_H → Option (Int32 × gz_H)} (hk4 : ∀ (a0 : Nat) (x1 : Int32) (x2 : Int32) (h : gz_H), gz_g (k4 a0 x1 x2 h) Q → gz_Ok G mX8_keptFlocks (d + 0, l0, s0, 0, 0) 4 [.ref a0, .int x1, .int x2] [] h (gz_qi Q)) (a0 : Nat) (x1 : Int32) (x2 : Int32) (h : gz_H) (hf : gz_g (fX8_keptFlocks_25 k4 a0 x1 x2 h) Q) : gz_Ok G mX8_keptFlocks (d + 0, l0, s0, 0, 0) 25 [.ref a0, .int x1, .int x2] [] h (gz_qi Q) := by
  unfold fX8_keptFlocks_25 at hf
  refine gz_iinc (v := x2 + 1) (lv := [.ref a0, .int x1, .int (x2 + 1)]) (pc := 25) dX8_keptFlocks_25 rfl rfl (by decide) rfl ?_
  refine gz_goto (tgt := 4) (pc := 28) dX8_keptFlocks_28 rfl ?_
  exact hk4 a0 x1 (x2 + 1) h hf
def fX8_keptFlocks_4  : Nat → Nat → Int32 → Int32 → gz_H → Option (Int32 × gz_H)
  | 0, _, _, _, _ => none
  | n + 1, a0, x1, x2, h =>
    if (3 : Int32) ≤ x2 then (
     some (x1, h)
    ) else (
     gz_ck (gz_sh h a0 8 19) <|
     gz_br (h.2.2.2 a0 8) fun r_3 =>
     gz_ck (gz_inb h r_3 12 x2) <|
     gz_br (h.2.2.2 r_3 x2.toNatClampNeg) fun r_5 =>
     gz_ck (gz_sh h r_5 3 2) <|
     if (h.2.1 r_5 1) = (-1 : Int32) then (
      fX8_keptFlocks_25 (fun z0 z1 z2 zh => fX8_keptFlocks_4 n z0 z1 z2 zh) a0 x1 x2 h
     ) else (
      fX8_keptFlocks_25 (fun z0 z1 z2 zh => fX8_keptFlocks_4 n z0 z1 z2 zh) a0 (x1 + 1) x2 h
     )
    )
set_option maxRecDepth 100000 in
set_option maxHeartbeats 1000000 in
theorem sX8_keptFlocks_4 {G : gz_G} {d l0 s0 : Nat} {Q : Int32 → gz_H → Prop} : ∀ (n : Nat) (a0 : Nat) (x1 : Int32) (x2 : Int32) (h : gz_H), gz_g (fX8_keptFlocks_4  n a0 x1 x2 h) Q → gz_Ok G mX8_keptFlocks (d + 0, l0, s0, 0, 0) 4 [.ref a0, .int x1, .int x2] [] h (gz_qi Q) := by
  intro n
  induction n with
  | zero => intro a0 x1 x2 h hf; exact False.elim hf
  | succ n ih =>
    intro a0 x1 x2 h hf
    rw [fX8_keptFlocks_4] at hf
    refine gz_iload_n (pc := 4) dX8_keptFlocks_4 rfl rfl ?_
    refine gz_iconst (v := (3 : Int32)) (pc := 5) dX8_keptFlocks_5 rfl ?_
    refine gz_icmp_ge (tgt := 31) (pc := 6) dX8_keptFlocks_6 rfl (fun c_1 => ?_) (fun c_1 => ?_)
    · have hf := gz_gT hf c_1
      refine gz_iload_n (pc := 31) dX8_keptFlocks_31 rfl rfl ?_
      exact gz_irt (pc := 32) dX8_keptFlocks_32 rfl rfl hf
    · have hf := gz_gF hf c_1
      refine gz_aload_n (pc := 9) dX8_keptFlocks_9 rfl rfl ?_
      refine gz_gk hf (fun c_2 hf => ?_)
      refine gz_gb hf (fun r_3 er_3 hf => ?_)
      refine gz_getR (pc := 10) dX8_keptFlocks_10 fl_RX8_63 rfl (gz_shs c_2) er_3 ?_
      refine gz_iload_n (pc := 13) dX8_keptFlocks_13 rfl rfl ?_
      refine gz_gk hf (fun c_4 hf => ?_)
      refine gz_gb hf (fun r_5 er_5 hf => ?_)
      refine gz_aald (Or.inr (Or.inl rfl)) (pc := 14) dX8_keptFlocks_14 c_4 er_5 ?_
      refine gz_gk hf (fun c_6 hf => ?_)
      refine gz_getI (pc := 15) dX8_keptFlocks_15 fl_RX8_99 rfl (gz_shs c_6) ?_
      refine gz_iconst (v := (-1 : Int32)) (pc := 18) dX8_keptFlocks_18 rfl ?_
      refine gz_icmp_eq (tgt := 25) (pc := 19) dX8_keptFlocks_19 rfl (fun c_7 => ?_) (fun c_7 => ?_)
      · have hf := gz_gT hf c_7
        exact sX8_keptFlocks_25 ih a0 x1 x2 h hf
      · have hf := gz_gF hf c_7
        refine gz_iinc (v := x1 + 1) (lv := [.ref a0, .int (x1 + 1), .int x2]) (pc := 22) dX8_keptFlocks_22 rfl rfl (by decide) rfl ?_
        exact sX8_keptFlocks_25 ih a0 (x1 + 1) x2 h hf
def fX8_keptFlocks_0  (a0 : Nat) (h : gz_H) : Option (Int32 × gz_H) :=
    fX8_keptFlocks_4 gz_fu a0 (0 : Int32) (0 : Int32) h
set_option maxRecDepth 100000 in
set_option maxHeartbeats 1000000 in
theorem sX8_keptFlocks_0 {G : gz_G} {d l0 s0 : Nat} {Q : Int32 → gz_H → Prop} (a0 : Nat) (h : gz_H) (hf : gz_g (fX8_keptFlocks_0  a0 h) Q) : gz_Ok G mX8_keptFlocks (d + 0, l0, s0, 0, 0) 0 [.ref a0, .retAddr 0, .retAddr 0] [] h (gz_qi Q) := by
  unfold fX8_keptFlocks_0 at hf
  refine gz_iconst (v := (0 : Int32)) (pc := 0) dX8_keptFlocks_0 rfl ?_
  refine gz_istore_n (lv := [.ref a0, .int (0 : Int32), .retAddr 0]) (pc := 1) dX8_keptFlocks_1 rfl (by decide) rfl ?_
  refine gz_iconst (v := (0 : Int32)) (pc := 2) dX8_keptFlocks_2 rfl ?_
  refine gz_istore_n (lv := [.ref a0, .int (0 : Int32), .int (0 : Int32)]) (pc := 3) dX8_keptFlocks_3 rfl (by decide) rfl ?_
  exact sX8_keptFlocks_4 gz_fu a0 (0 : Int32) (0 : Int32) h hf
def fX8_keptFlocks (a0 : Nat) (h : gz_H) : Option (Int32 × gz_H) := fX8_keptFlocks_0 a0 h
theorem sX8_keptFlocks {G : gz_G} {d : Nat} {a0 : Nat} {h : gz_H} {Q : Int32 → gz_H → Prop} (hf : gz_g (fX8_keptFlocks a0 h) Q) : gz_Cl G mX8_keptFlocks (d + 0) 0 0 [.ref a0] h (gz_qi Q) := gz_cl_of (lo := [.ref a0, .retAddr 0, .retAddr 0]) (by decide) rfl rfl (Nat.le_of_ble_eq_true rfl) (sX8_keptFlocks_0 a0 h hf)
theorem dX8_countOf_0 : decode cX8_countOf 0 = .ok (.iload_n 1, 1) := by decide +kernel
theorem dX8_countOf_1 : decode cX8_countOf 1 = .ok (.tableswitch 113 0 7 #[47, 55, 63, 71, 79, 88, 97, 105], 47) := by decide +kernel
theorem dX8_countOf_48 : decode cX8_countOf 48 = .ok (.aload_n 0, 1) := by decide +kernel
theorem dX8_countOf_49 : decode cX8_countOf 49 = .ok (.getfield 70, 3) := by decide +kernel
theorem dX8_countOf_52 : decode cX8_countOf 52 = .ok (.getfield 149, 3) := by decide +kernel
theorem dX8_countOf_55 : decode cX8_countOf 55 = .ok (.ireturn, 1) := by decide +kernel
theorem dX8_countOf_56 : decode cX8_countOf 56 = .ok (.aload_n 0, 1) := by decide +kernel
theorem dX8_countOf_57 : decode cX8_countOf 57 = .ok (.getfield 70, 3) := by decide +kernel
theorem dX8_countOf_60 : decode cX8_countOf 60 = .ok (.getfield 245, 3) := by decide +kernel
theorem dX8_countOf_63 : decode cX8_countOf 63 = .ok (.ireturn, 1) := by decide +kernel
theorem dX8_countOf_64 : decode cX8_countOf 64 = .ok (.aload_n 0, 1) := by decide +kernel
theorem dX8_countOf_65 : decode cX8_countOf 65 = .ok (.getfield 70, 3) := by decide +kernel
theorem dX8_countOf_68 : decode cX8_countOf 68 = .ok (.invokevirtual 290, 3) := by decide +kernel
theorem dX8_countOf_71 : decode cX8_countOf 71 = .ok (.ireturn, 1) := by decide +kernel
theorem dX8_countOf_72 : decode cX8_countOf 72 = .ok (.aload_n 0, 1) := by decide +kernel
theorem dX8_countOf_73 : decode cX8_countOf 73 = .ok (.getfield 59, 3) := by decide +kernel
theorem dX8_countOf_76 : decode cX8_countOf 76 = .ok (.getfield 99, 3) := by decide +kernel
theorem dX8_countOf_79 : decode cX8_countOf 79 = .ok (.ireturn, 1) := by decide +kernel
theorem dX8_countOf_80 : decode cX8_countOf 80 = .ok (.aload_n 0, 1) := by decide +kernel
theorem dX8_countOf_81 : decode cX8_countOf 81 = .ok (.getfield 70, 3) := by decide +kernel
theorem dX8_countOf_84 : decode cX8_countOf 84 = .ok (.iconst 1, 1) := by decide +kernel
theorem dX8_countOf_85 : decode cX8_countOf 85 = .ok (.invokevirtual 337, 3) := by decide +kernel
theorem dX8_countOf_88 : decode cX8_countOf 88 = .ok (.ireturn, 1) := by decide +kernel
theorem dX8_countOf_89 : decode cX8_countOf 89 = .ok (.aload_n 0, 1) := by decide +kernel
theorem dX8_countOf_90 : decode cX8_countOf 90 = .ok (.getfield 70, 3) := by decide +kernel
theorem dX8_countOf_93 : decode cX8_countOf 93 = .ok (.iconst 3, 1) := by decide +kernel
theorem dX8_countOf_94 : decode cX8_countOf 94 = .ok (.invokevirtual 337, 3) := by decide +kernel
theorem dX8_countOf_97 : decode cX8_countOf 97 = .ok (.ireturn, 1) := by decide +kernel
theorem dX8_countOf_98 : decode cX8_countOf 98 = .ok (.aload_n 0, 1) := by decide +kernel
theorem dX8_countOf_99 : decode cX8_countOf 99 = .ok (.getfield 14, 3) := by decide +kernel
theorem dX8_countOf_102 : decode cX8_countOf 102 = .ok (.invokevirtual 340, 3) := by decide +kernel
theorem dX8_countOf_105 : decode cX8_countOf 105 = .ok (.ireturn, 1) := by decide +kernel
theorem dX8_countOf_106 : decode cX8_countOf 106 = .ok (.aload_n 0, 1) := by decide +kernel
theorem dX8_countOf_107 : decode cX8_countOf 107 = .ok (.getfield 18, 3) := by decide +kernel
theorem dX8_countOf_110 : decode cX8_countOf 110 = .ok (.invokevirtual 340, 3) := by decide +kernel
theorem dX8_countOf_113 : decode cX8_countOf 113 = .ok (.ireturn, 1) := by decide +kernel
theorem dX8_countOf_114 : decode cX8_countOf 114 = .ok (.aload_n 0, 1) := by decide +kernel
theorem dX8_countOf_115 : decode cX8_countOf 115 = .ok (.invokevirtual 343, 3) := by decide +kernel
theorem dX8_countOf_118 : decode cX8_countOf 118 = .ok (.ireturn, 1) := by decide +kernel
def fX8_countOf_0  (a0 : Nat) (x1 : Int32) (h : gz_H) : Option (Int32 × gz_H) :=
    if x1 = (0 : Int32) then (
     gz_ck (gz_sh h a0 8 19) <|
     gz_br (h.2.2.2 a0 9) fun r_3 =>
     gz_ck (gz_sh h r_3 1 4) <|
     some (h.2.1 r_3 3, h)
    ) else (
    if x1 = (1 : Int32) then (
     gz_ck (gz_sh h a0 8 19) <|
     gz_br (h.2.2.2 a0 9) fun r_7 =>
     gz_ck (gz_sh h r_7 1 4) <|
     some (h.2.1 r_7 2, h)
    ) else (
    if x1 = (2 : Int32) then (
     gz_ck (gz_sh h a0 8 19) <|
     gz_br (h.2.2.2 a0 9) fun r_11 =>
     gz_ck (gz_sh h r_11 1 4) <|
     gz_b2 (fX1_alive r_11 h) fun y_13 h_12 =>
     some (y_13, h_12)
    ) else (
    if x1 = (3 : Int32) then (
     gz_ck (gz_sh h a0 8 19) <|
     gz_br (h.2.2.2 a0 7) fun r_17 =>
     gz_ck (gz_sh h r_17 3 2) <|
     some (h.2.1 r_17 1, h)
    ) else (
    if x1 = (4 : Int32) then (
     gz_ck (gz_sh h a0 8 19) <|
     gz_br (h.2.2.2 a0 9) fun r_21 =>
     gz_ck (gz_sh h r_21 1 4) <|
     gz_b2 (fX1_countOfKind r_21 (1 : Int32) h) fun y_23 h_22 =>
     some (y_23, h_22)
    ) else (
    if x1 = (5 : Int32) then (
     gz_ck (gz_sh h a0 8 19) <|
     gz_br (h.2.2.2 a0 9) fun r_27 =>
     gz_ck (gz_sh h r_27 1 4) <|
     gz_b2 (fX1_countOfKind r_27 (3 : Int32) h) fun y_29 h_28 =>
     some (y_29, h_28)
    ) else (
    if x1 = (6 : Int32) then (
     gz_ck (gz_sh h a0 8 19) <|
     gz_br (h.2.2.2 a0 0) fun r_33 =>
     gz_ck (gz_sh h r_33 7 3) <|
     gz_b2 (fX7_there r_33 h) fun y_35 h_34 =>
     some (y_35, h_34)
    ) else (
    if x1 = (7 : Int32) then (
     gz_ck (gz_sh h a0 8 19) <|
     gz_br (h.2.2.2 a0 1) fun r_39 =>
     gz_ck (gz_sh h r_39 7 3) <|
     gz_b2 (fX7_there r_39 h) fun y_41 h_40 =>
     some (y_41, h_40)
    ) else (
    gz_ck (gz_sh h a0 8 19) <|
    gz_b2 (fX8_keptFlocks a0 h) fun y_44 h_43 =>
    some (y_44, h_43)
    ))))))))
set_option maxRecDepth 100000 in
set_option maxHeartbeats 1000000 in
theorem sX8_countOf_0 {G : gz_G} {d l0 s0 : Nat} {Q : Int32 → gz_H → Prop} (a0 : Nat) (x1 : Int32) (h : gz_H) (hf : gz_g (fX8_countOf_0  a0 x1 h) Q) : gz_Ok G mX8_countOf (d + 2, l0, s0, 0, 0) 0 [.ref a0, .int x1] [] h (gz_qi Q) := by
  unfold fX8_countOf_0 at hf
  refine gz_iload_n (pc := 0) dX8_countOf_0 rfl rfl ?_
  by_cases c_1 : x1 = (0 : Int32)
  · have hf := gz_gT hf c_1
    refine gz_tIn (off := 47) (tgt := 48) (pc := 1) dX8_countOf_1 (by rw [c_1]; decide) (by rw [c_1]; decide) (by rw [c_1]; decide) rfl ?_
    refine gz_aload_n (pc := 48) dX8_countOf_48 rfl rfl ?_
    refine gz_gk hf (fun c_2 hf => ?_)
    refine gz_gb hf (fun r_3 er_3 hf => ?_)
    refine gz_getR (pc := 49) dX8_countOf_49 fl_RX8_70 rfl (gz_shs c_2) er_3 ?_
    refine gz_gk hf (fun c_4 hf => ?_)
    refine gz_getI (pc := 52) dX8_countOf_52 fl_RX8_149 rfl (gz_shs c_4) ?_
    exact gz_irt (pc := 55) dX8_countOf_55 rfl rfl hf
  have hf := gz_gF hf c_1
  by_cases c_5 : x1 = (1 : Int32)
  · have hf := gz_gT hf c_5
    refine gz_tIn (off := 55) (tgt := 56) (pc := 1) dX8_countOf_1 (by rw [c_5]; decide) (by rw [c_5]; decide) (by rw [c_5]; decide) rfl ?_
    refine gz_aload_n (pc := 56) dX8_countOf_56 rfl rfl ?_
    refine gz_gk hf (fun c_6 hf => ?_)
    refine gz_gb hf (fun r_7 er_7 hf => ?_)
    refine gz_getR (pc := 57) dX8_countOf_57 fl_RX8_70 rfl (gz_shs c_6) er_7 ?_
    refine gz_gk hf (fun c_8 hf => ?_)
    refine gz_getI (pc := 60) dX8_countOf_60 fl_RX8_245 rfl (gz_shs c_8) ?_
    exact gz_irt (pc := 63) dX8_countOf_63 rfl rfl hf
  have hf := gz_gF hf c_5
  by_cases c_9 : x1 = (2 : Int32)
  · have hf := gz_gT hf c_9
    refine gz_tIn (off := 63) (tgt := 64) (pc := 1) dX8_countOf_1 (by rw [c_9]; decide) (by rw [c_9]; decide) (by rw [c_9]; decide) rfl ?_
    refine gz_aload_n (pc := 64) dX8_countOf_64 rfl rfl ?_
    refine gz_gk hf (fun c_10 hf => ?_)
    refine gz_gb hf (fun r_11 er_11 hf => ?_)
    refine gz_getR (pc := 65) dX8_countOf_65 fl_RX8_70 rfl (gz_shs c_10) er_11 ?_
    refine gz_gk hf (fun c_14 hf => ?_)
    refine gz_cVI (av := []) (st := []) (pc := 68) dX8_countOf_68 kl_RX8_290 rfl (gz_shs c_14) rfl rfl (Nat.le_of_ble_eq_true rfl) (by show d + 0 + 1 + 1 ≤ d + 2; omega) (sX1_alive (d := d + 0) (gz_gc hf)) (fun y_13 h_12 hf => ?_)
    exact gz_irt (pc := 71) dX8_countOf_71 rfl rfl hf
  have hf := gz_gF hf c_9
  by_cases c_15 : x1 = (3 : Int32)
  · have hf := gz_gT hf c_15
    refine gz_tIn (off := 71) (tgt := 72) (pc := 1) dX8_countOf_1 (by rw [c_15]; decide) (by rw [c_15]; decide) (by rw [c_15]; decide) rfl ?_
    refine gz_aload_n (pc := 72) dX8_countOf_72 rfl rfl ?_
    refine gz_gk hf (fun c_16 hf => ?_)
    refine gz_gb hf (fun r_17 er_17 hf => ?_)
    refine gz_getR (pc := 73) dX8_countOf_73 fl_RX8_59 rfl (gz_shs c_16) er_17 ?_
    refine gz_gk hf (fun c_18 hf => ?_)
    refine gz_getI (pc := 76) dX8_countOf_76 fl_RX8_99 rfl (gz_shs c_18) ?_
    exact gz_irt (pc := 79) dX8_countOf_79 rfl rfl hf
  have hf := gz_gF hf c_15
  by_cases c_19 : x1 = (4 : Int32)
  · have hf := gz_gT hf c_19
    refine gz_tIn (off := 79) (tgt := 80) (pc := 1) dX8_countOf_1 (by rw [c_19]; decide) (by rw [c_19]; decide) (by rw [c_19]; decide) rfl ?_
    refine gz_aload_n (pc := 80) dX8_countOf_80 rfl rfl ?_
    refine gz_gk hf (fun c_20 hf => ?_)
    refine gz_gb hf (fun r_21 er_21 hf => ?_)
    refine gz_getR (pc := 81) dX8_countOf_81 fl_RX8_70 rfl (gz_shs c_20) er_21 ?_
    refine gz_iconst (v := (1 : Int32)) (pc := 84) dX8_countOf_84 rfl ?_
    refine gz_gk hf (fun c_24 hf => ?_)
    refine gz_cVI (av := [.int (1 : Int32)]) (st := []) (pc := 85) dX8_countOf_85 kl_RX8_337 rfl (gz_shs c_24) rfl rfl (Nat.le_of_ble_eq_true rfl) (by show d + 0 + 1 + 1 ≤ d + 2; omega) (sX1_countOfKind (d := d + 0) (gz_gc hf)) (fun y_23 h_22 hf => ?_)
    exact gz_irt (pc := 88) dX8_countOf_88 rfl rfl hf
  have hf := gz_gF hf c_19
  by_cases c_25 : x1 = (5 : Int32)
  · have hf := gz_gT hf c_25
    refine gz_tIn (off := 88) (tgt := 89) (pc := 1) dX8_countOf_1 (by rw [c_25]; decide) (by rw [c_25]; decide) (by rw [c_25]; decide) rfl ?_
    refine gz_aload_n (pc := 89) dX8_countOf_89 rfl rfl ?_
    refine gz_gk hf (fun c_26 hf => ?_)
    refine gz_gb hf (fun r_27 er_27 hf => ?_)
    refine gz_getR (pc := 90) dX8_countOf_90 fl_RX8_70 rfl (gz_shs c_26) er_27 ?_
    refine gz_iconst (v := (3 : Int32)) (pc := 93) dX8_countOf_93 rfl ?_
    refine gz_gk hf (fun c_30 hf => ?_)
    refine gz_cVI (av := [.int (3 : Int32)]) (st := []) (pc := 94) dX8_countOf_94 kl_RX8_337 rfl (gz_shs c_30) rfl rfl (Nat.le_of_ble_eq_true rfl) (by show d + 0 + 1 + 1 ≤ d + 2; omega) (sX1_countOfKind (d := d + 0) (gz_gc hf)) (fun y_29 h_28 hf => ?_)
    exact gz_irt (pc := 97) dX8_countOf_97 rfl rfl hf
  have hf := gz_gF hf c_25
  by_cases c_31 : x1 = (6 : Int32)
  · have hf := gz_gT hf c_31
    refine gz_tIn (off := 97) (tgt := 98) (pc := 1) dX8_countOf_1 (by rw [c_31]; decide) (by rw [c_31]; decide) (by rw [c_31]; decide) rfl ?_
    refine gz_aload_n (pc := 98) dX8_countOf_98 rfl rfl ?_
    refine gz_gk hf (fun c_32 hf => ?_)
    refine gz_gb hf (fun r_33 er_33 hf => ?_)
    refine gz_getR (pc := 99) dX8_countOf_99 fl_RX8_14 rfl (gz_shs c_32) er_33 ?_
    refine gz_gk hf (fun c_36 hf => ?_)
    refine gz_cVI (av := []) (st := []) (pc := 102) dX8_countOf_102 kl_RX8_340 rfl (gz_shs c_36) rfl rfl (Nat.le_of_ble_eq_true rfl) (by show d + 0 + 1 + 1 ≤ d + 2; omega) (sX7_there (d := d + 0) (gz_gc hf)) (fun y_35 h_34 hf => ?_)
    exact gz_irt (pc := 105) dX8_countOf_105 rfl rfl hf
  have hf := gz_gF hf c_31
  by_cases c_37 : x1 = (7 : Int32)
  · have hf := gz_gT hf c_37
    refine gz_tIn (off := 105) (tgt := 106) (pc := 1) dX8_countOf_1 (by rw [c_37]; decide) (by rw [c_37]; decide) (by rw [c_37]; decide) rfl ?_
    refine gz_aload_n (pc := 106) dX8_countOf_106 rfl rfl ?_
    refine gz_gk hf (fun c_38 hf => ?_)
    refine gz_gb hf (fun r_39 er_39 hf => ?_)
    refine gz_getR (pc := 107) dX8_countOf_107 fl_RX8_18 rfl (gz_shs c_38) er_39 ?_
    refine gz_gk hf (fun c_42 hf => ?_)
    refine gz_cVI (av := []) (st := []) (pc := 110) dX8_countOf_110 kl_RX8_340 rfl (gz_shs c_42) rfl rfl (Nat.le_of_ble_eq_true rfl) (by show d + 0 + 1 + 1 ≤ d + 2; omega) (sX7_there (d := d + 0) (gz_gc hf)) (fun y_41 h_40 hf => ?_)
    exact gz_irt (pc := 113) dX8_countOf_113 rfl rfl hf
  have hf := gz_gF hf c_37
  refine gz_tOut (tgt := 114) (pc := 1) dX8_countOf_1 (gz_tout 8 (fun k hk => match k, hk with | 0, _ => c_1 | 1, _ => c_5 | 2, _ => c_9 | 3, _ => c_15 | 4, _ => c_19 | 5, _ => c_25 | 6, _ => c_31 | 7, _ => c_37 | k + 8, hk => absurd hk (by omega))) rfl ?_
  refine gz_aload_n (pc := 114) dX8_countOf_114 rfl rfl ?_
  refine gz_gk hf (fun c_45 hf => ?_)
  refine gz_cVI (av := []) (st := []) (pc := 115) dX8_countOf_115 kl_RX8_343 rfl (gz_shs c_45) rfl rfl (Nat.le_of_ble_eq_true rfl) (by show d + 1 + 0 + 1 ≤ d + 2; omega) (sX8_keptFlocks (d := d + 1) (gz_gc hf)) (fun y_44 h_43 hf => ?_)
  exact gz_irt (pc := 118) dX8_countOf_118 rfl rfl hf
def fX8_countOf (a0 : Nat) (x1 : Int32) (h : gz_H) : Option (Int32 × gz_H) := fX8_countOf_0 a0 x1 h
theorem sX8_countOf {G : gz_G} {d : Nat} {a0 : Nat} {x1 : Int32} {h : gz_H} {Q : Int32 → gz_H → Prop} (hf : gz_g (fX8_countOf a0 x1 h) Q) : gz_Cl G mX8_countOf (d + 2) 0 0 [.ref a0, .int x1] h (gz_qi Q) := gz_cl_of (lo := [.ref a0, .int x1]) (by decide) rfl rfl (Nat.le_of_ble_eq_true rfl) (sX8_countOf_0 a0 x1 h hf)
theorem dX8_count_0 : decode cX8_count 0 = .ok (.iload_n 1, 1) := by decide +kernel
theorem dX8_count_1 : decode cX8_count 1 = .ok (.ifCond .lt 9, 3) := by decide +kernel
theorem dX8_count_4 : decode cX8_count 4 = .ok (.iload_n 1, 1) := by decide +kernel
theorem dX8_count_5 : decode cX8_count 5 = .ok (.bipush 9, 2) := by decide +kernel
theorem dX8_count_7 : decode cX8_count 7 = .ok (.if_icmp .lt 7, 3) := by decide +kernel
theorem dX8_count_10 : decode cX8_count 10 = .ok (.iconst (-1), 1) := by decide +kernel
theorem dX8_count_11 : decode cX8_count 11 = .ok (.goto 8, 3) := by decide +kernel
theorem dX8_count_14 : decode cX8_count 14 = .ok (.aload_n 0, 1) := by decide +kernel
theorem dX8_count_15 : decode cX8_count 15 = .ok (.iload_n 1, 1) := by decide +kernel
theorem dX8_count_16 : decode cX8_count 16 = .ok (.invokevirtual 312, 3) := by decide +kernel
theorem dX8_count_19 : decode cX8_count 19 = .ok (.ireturn, 1) := by decide +kernel
def fX8_count_10   (h : gz_H) : Option (Int32 × gz_H) :=
    some ((-1 : Int32), h)
set_option maxRecDepth 100000 in
set_option maxHeartbeats 1000000 in
theorem sX8_count_10 {G : gz_G} {d l0 s0 : Nat} {Q : Int32 → gz_H → Prop}  (h : gz_H) (hf : gz_g (fX8_count_10   h) Q) : gz_Ok G mX8_count (d + 3, l0, s0, 0, 0) 10 [.retAddr 0, .retAddr 0] [] h (gz_qi Q) := by
  unfold fX8_count_10 at hf
  refine gz_iconst (v := (-1 : Int32)) (pc := 10) dX8_count_10 rfl ?_
  refine gz_goto (tgt := 19) (pc := 11) dX8_count_11 rfl ?_
  exact gz_irt (pc := 19) dX8_count_19 rfl rfl hf
def fX8_count_0  (a0 : Nat) (x1 : Int32) (h : gz_H) : Option (Int32 × gz_H) :=
    if x1 < 0 then (
     fX8_count_10 h
    ) else (
     if x1 < (9 : Int32) then (
      gz_ck (gz_sh h a0 8 19) <|
      gz_b2 (fX8_countOf a0 x1 h) fun y_4 h_3 =>
      some (y_4, h_3)
     ) else (
      fX8_count_10 h
     )
    )
set_option maxRecDepth 100000 in
set_option maxHeartbeats 1000000 in
theorem sX8_count_0 {G : gz_G} {d l0 s0 : Nat} {Q : Int32 → gz_H → Prop} (a0 : Nat) (x1 : Int32) (h : gz_H) (hf : gz_g (fX8_count_0  a0 x1 h) Q) : gz_Ok G mX8_count (d + 3, l0, s0, 0, 0) 0 [.ref a0, .int x1] [] h (gz_qi Q) := by
  unfold fX8_count_0 at hf
  refine gz_iload_n (pc := 0) dX8_count_0 rfl rfl ?_
  refine gz_if_lt (tgt := 10) (pc := 1) dX8_count_1 rfl (fun c_1 => ?_) (fun c_1 => ?_)
  · have hf := gz_gT hf c_1
    refine gz_fg (lv := [.retAddr 0, .retAddr 0]) ⟨Or.inl rfl, ⟨Or.inl rfl, trivial⟩⟩ ?_
    exact sX8_count_10 h hf
  · have hf := gz_gF hf c_1
    refine gz_iload_n (pc := 4) dX8_count_4 rfl rfl ?_
    refine gz_bipush (v := (9 : Int32)) (pc := 5) dX8_count_5 rfl ?_
    refine gz_icmp_lt (tgt := 14) (pc := 7) dX8_count_7 rfl (fun c_2 => ?_) (fun c_2 => ?_)
    · have hf := gz_gT hf c_2
      refine gz_aload_n (pc := 14) dX8_count_14 rfl rfl ?_
      refine gz_iload_n (pc := 15) dX8_count_15 rfl rfl ?_
      refine gz_gk hf (fun c_5 hf => ?_)
      refine gz_cVI (av := [.int x1]) (st := []) (pc := 16) dX8_count_16 kl_RX8_312 rfl (gz_shs c_5) rfl rfl (Nat.le_of_ble_eq_true rfl) (by show d + 0 + 2 + 1 ≤ d + 3; omega) (sX8_countOf (d := d + 0) (gz_gc hf)) (fun y_4 h_3 hf => ?_)
      exact gz_irt (pc := 19) dX8_count_19 rfl rfl hf
    · have hf := gz_gF hf c_2
      refine gz_fg (lv := [.retAddr 0, .retAddr 0]) ⟨Or.inl rfl, ⟨Or.inl rfl, trivial⟩⟩ ?_
      exact sX8_count_10 h hf
def fX8_count (a0 : Nat) (x1 : Int32) (h : gz_H) : Option (Int32 × gz_H) := fX8_count_0 a0 x1 h
theorem sX8_count {G : gz_G} {d : Nat} {a0 : Nat} {x1 : Int32} {h : gz_H} {Q : Int32 → gz_H → Prop} (hf : gz_g (fX8_count a0 x1 h) Q) : gz_Cl G mX8_count (d + 3) 0 0 [.ref a0, .int x1] h (gz_qi Q) := gz_cl_of (lo := [.ref a0, .int x1]) (by decide) rfl rfl (Nat.le_of_ble_eq_true rfl) (sX8_count_0 a0 x1 h hf)
theorem dX8_finding_0 : decode cX8_finding 0 = .ok (.aload_n 0, 1) := by decide +kernel
theorem dX8_finding_1 : decode cX8_finding 1 = .ok (.getfield 31, 3) := by decide +kernel
theorem dX8_finding_4 : decode cX8_finding 4 = .ok (.getfield 315, 3) := by decide +kernel
theorem dX8_finding_7 : decode cX8_finding 7 = .ok (.ireturn, 1) := by decide +kernel
def fX8_finding_0  (a0 : Nat) (h : gz_H) : Option (Int32 × gz_H) :=
    gz_ck (gz_sh h a0 8 19) <|
    gz_br (h.2.2.2 a0 3) fun r_2 =>
    gz_ck (gz_sh h r_2 0 2) <|
    some (h.2.1 r_2 1, h)
set_option maxRecDepth 100000 in
set_option maxHeartbeats 1000000 in
theorem sX8_finding_0 {G : gz_G} {d l0 s0 : Nat} {Q : Int32 → gz_H → Prop} (a0 : Nat) (h : gz_H) (hf : gz_g (fX8_finding_0  a0 h) Q) : gz_Ok G mX8_finding (d + 0, l0, s0, 0, 0) 0 [.ref a0] [] h (gz_qi Q) := by
  unfold fX8_finding_0 at hf
  refine gz_aload_n (pc := 0) dX8_finding_0 rfl rfl ?_
  refine gz_gk hf (fun c_1 hf => ?_)
  refine gz_gb hf (fun r_2 er_2 hf => ?_)
  refine gz_getR (pc := 1) dX8_finding_1 fl_RX8_31 rfl (gz_shs c_1) er_2 ?_
  refine gz_gk hf (fun c_3 hf => ?_)
  refine gz_getI (pc := 4) dX8_finding_4 fl_RX8_315 rfl (gz_shs c_3) ?_
  exact gz_irt (pc := 7) dX8_finding_7 rfl rfl hf
def fX8_finding (a0 : Nat) (h : gz_H) : Option (Int32 × gz_H) := fX8_finding_0 a0 h
theorem sX8_finding {G : gz_G} {d : Nat} {a0 : Nat} {h : gz_H} {Q : Int32 → gz_H → Prop} (hf : gz_g (fX8_finding a0 h) Q) : gz_Cl G mX8_finding (d + 0) 0 0 [.ref a0] h (gz_qi Q) := gz_cl_of (lo := [.ref a0]) (by decide) rfl rfl (Nat.le_of_ble_eq_true rfl) (sX8_finding_0 a0 h hf)
