theorem dX9_figure_0 : decode cX9_figure 0 = .ok (.aload_n 0, 1) := by decide +kernel
theorem dX9_figure_1 : decode cX9_figure 1 = .ok (.getfield 109, 3) := by decide +kernel
theorem dX9_figure_4 : decode cX9_figure 4 = .ok (.aload_n 0, 1) := by decide +kernel
theorem dX9_figure_5 : decode cX9_figure 5 = .ok (.getfield 112, 3) := by decide +kernel
theorem dX9_figure_8 : decode cX9_figure 8 = .ok (.if_icmp .eq 24, 3) := by decide +kernel
theorem dX9_figure_11 : decode cX9_figure 11 = .ok (.aload_n 0, 1) := by decide +kernel
theorem dX9_figure_12 : decode cX9_figure 12 = .ok (.invokevirtual 115, 3) := by decide +kernel
theorem dX9_figure_15 : decode cX9_figure 15 = .ok (.i2l, 1) := by decide +kernel
theorem dX9_figure_16 : decode cX9_figure 16 = .ok (.bipush 48, 2) := by decide +kernel
theorem dX9_figure_18 : decode cX9_figure 18 = .ok (.iload_n 1, 1) := by decide +kernel
theorem dX9_figure_19 : decode cX9_figure 19 = .ok (.iadd, 1) := by decide +kernel
theorem dX9_figure_20 : decode cX9_figure 20 = .ok (.i2l, 1) := by decide +kernel
theorem dX9_figure_21 : decode cX9_figure 21 = .ok (.bipush 48, 2) := by decide +kernel
theorem dX9_figure_23 : decode cX9_figure 23 = .ok (.iload_n 2, 1) := by decide +kernel
theorem dX9_figure_24 : decode cX9_figure 24 = .ok (.iadd, 1) := by decide +kernel
theorem dX9_figure_25 : decode cX9_figure 25 = .ok (.i2l, 1) := by decide +kernel
theorem dX9_figure_26 : decode cX9_figure 26 = .ok (.invokestatic 74, 3) := by decide +kernel
theorem dX9_figure_29 : decode cX9_figure 29 = .ok (.ifCond .ne 6, 3) := by decide +kernel
theorem dX9_figure_32 : decode cX9_figure 32 = .ok (.bipush (-9), 2) := by decide +kernel
theorem dX9_figure_34 : decode cX9_figure 34 = .ok (.ireturn, 1) := by decide +kernel
theorem dX9_figure_35 : decode cX9_figure 35 = .ok (.aload_n 0, 1) := by decide +kernel
theorem dX9_figure_36 : decode cX9_figure 36 = .ok (.dup, 1) := by decide +kernel
theorem dX9_figure_37 : decode cX9_figure 37 = .ok (.getfield 109, 3) := by decide +kernel
theorem dX9_figure_40 : decode cX9_figure 40 = .ok (.iconst 1, 1) := by decide +kernel
theorem dX9_figure_41 : decode cX9_figure 41 = .ok (.iadd, 1) := by decide +kernel
theorem dX9_figure_42 : decode cX9_figure 42 = .ok (.putfield 109, 3) := by decide +kernel
theorem dX9_figure_45 : decode cX9_figure 45 = .ok (.aload_n 0, 1) := by decide +kernel
theorem dX9_figure_46 : decode cX9_figure 46 = .ok (.getfield 34, 3) := by decide +kernel
theorem dX9_figure_49 : decode cX9_figure 49 = .ok (.aload_n 0, 1) := by decide +kernel
theorem dX9_figure_50 : decode cX9_figure 50 = .ok (.getfield 106, 3) := by decide +kernel
theorem dX9_figure_53 : decode cX9_figure 53 = .ok (.aload_n 0, 1) := by decide +kernel
theorem dX9_figure_54 : decode cX9_figure 54 = .ok (.getfield 109, 3) := by decide +kernel
theorem dX9_figure_57 : decode cX9_figure 57 = .ok (.iadd, 1) := by decide +kernel
theorem dX9_figure_58 : decode cX9_figure 58 = .ok (.iconst 1, 1) := by decide +kernel
theorem dX9_figure_59 : decode cX9_figure 59 = .ok (.isub, 1) := by decide +kernel
theorem dX9_figure_60 : decode cX9_figure 60 = .ok (.iaload, 1) := by decide +kernel
theorem dX9_figure_61 : decode cX9_figure 61 = .ok (.bipush 48, 2) := by decide +kernel
theorem dX9_figure_63 : decode cX9_figure 63 = .ok (.isub, 1) := by decide +kernel
theorem dX9_figure_64 : decode cX9_figure 64 = .ok (.ireturn, 1) := by decide +kernel
def fX9_figure_0  (a0 : Nat) (x1 : Int32) (x2 : Int32) (h : gz_H) : Option (Int32 × gz_H) :=
    gz_ck (gz_sh h a0 9 29) <|
    if (h.2.1 a0 17) = (h.2.1 a0 18) then (
     some ((-9 : Int32), h)
    ) else (
     gz_b2 (fX9_here a0 h) fun y_4 h_3 =>
     gz_b2 (fX9_in y_4.toInt64 (((48 : Int32) + x1).toInt64) (((48 : Int32) + x2).toInt64) h_3) fun y_6 h_5 =>
     if y_6 = 0 then (
      some ((-9 : Int32), h_5)
     ) else (
      gz_ck (gz_sh h_5 a0 9 29) <|
      gz_lt (uI h_5 a0 17 ((h_5.2.1 a0 17) + (1 : Int32))) fun h_9 =>
      gz_ck (gz_sh h_9 a0 9 29) <|
      gz_br (h_9.2.2.2 a0 10) fun r_11 =>
      gz_ck (gz_inb h_9 r_11 10 (((h_9.2.1 a0 16) + (h_9.2.1 a0 17)) - (1 : Int32))) <|
      some ((h_9.2.1 r_11 (((h_9.2.1 a0 16) + (h_9.2.1 a0 17)) - (1 : Int32)).toNatClampNeg) - (48 : Int32), h_9)
     )
    )
set_option maxRecDepth 100000 in
set_option maxHeartbeats 1000000 in
theorem sX9_figure_0 {G : gz_G} {d l0 s0 : Nat} {Q : Int32 → gz_H → Prop} (a0 : Nat) (x1 : Int32) (x2 : Int32) (h : gz_H) (hf : gz_g (fX9_figure_0  a0 x1 x2 h) Q) : gz_Ok G mX9_figure (d + 1, l0, s0, 0, 0) 0 [.ref a0, .int x1, .int x2] [] h (gz_qi Q) := by
  unfold fX9_figure_0 at hf
  refine gz_aload_n (pc := 0) dX9_figure_0 rfl rfl ?_
  refine gz_gk hf (fun c_1 hf => ?_)
  refine gz_getI (pc := 1) dX9_figure_1 fl_RX9_109 rfl (gz_shs c_1) ?_
  refine gz_aload_n (pc := 4) dX9_figure_4 rfl rfl ?_
  refine gz_getI (pc := 5) dX9_figure_5 fl_RX9_112 rfl (gz_shs c_1) ?_
  refine gz_icmp_eq (tgt := 32) (pc := 8) dX9_figure_8 rfl (fun c_2 => ?_) (fun c_2 => ?_)
  · have hf := gz_gT hf c_2
    refine gz_bipush (v := (-9 : Int32)) (pc := 32) dX9_figure_32 rfl ?_
    exact gz_irt (pc := 34) dX9_figure_34 rfl rfl hf
  · have hf := gz_gF hf c_2
    refine gz_aload_n (pc := 11) dX9_figure_11 rfl rfl ?_
    refine gz_cVI (av := []) (st := []) (pc := 12) dX9_figure_12 kl_RX9_115 rfl (gz_shs c_1) rfl rfl (Nat.le_of_ble_eq_true rfl) (by show d + 0 + 0 + 1 ≤ d + 1; omega) (sX9_here (d := d + 0) (gz_gc hf)) (fun y_4 h_3 hf => ?_)
    refine gz_i2l (pc := 15) dX9_figure_15 ?_
    refine gz_bipush (v := (48 : Int32)) (pc := 16) dX9_figure_16 rfl ?_
    refine gz_iload_n (pc := 18) dX9_figure_18 rfl rfl ?_
    refine gz_iadd (pc := 19) dX9_figure_19 ?_
    refine gz_i2l (pc := 20) dX9_figure_20 ?_
    refine gz_bipush (v := (48 : Int32)) (pc := 21) dX9_figure_21 rfl ?_
    refine gz_iload_n (pc := 23) dX9_figure_23 rfl rfl ?_
    refine gz_iadd (pc := 24) dX9_figure_24 ?_
    refine gz_i2l (pc := 25) dX9_figure_25 ?_
    refine gz_cSI (av := [.long y_4.toInt64, .long (((48 : Int32) + x1).toInt64), .long (((48 : Int32) + x2).toInt64)]) (st := []) (pc := 26) dX9_figure_26 kl_RX9_74 rfl rfl (Nat.le_of_ble_eq_true rfl) (by show d + 0 + 0 + 1 ≤ d + 1; omega) (sX9_in (d := d + 0) (gz_gc hf)) (fun y_6 h_5 hf => ?_)
    refine gz_if_ne (tgt := 35) (pc := 29) dX9_figure_29 rfl (fun c_7 => ?_) (fun c_7 => ?_)
    · have hf := gz_gF hf c_7
      refine gz_aload_n (pc := 35) dX9_figure_35 rfl rfl ?_
      refine gz_dup (pc := 36) dX9_figure_36 rfl ?_
      refine gz_gk hf (fun c_8 hf => ?_)
      refine gz_getI (pc := 37) dX9_figure_37 fl_RX9_109 rfl (gz_shs c_8) ?_
      refine gz_iconst (v := (1 : Int32)) (pc := 40) dX9_figure_40 rfl ?_
      refine gz_iadd (pc := 41) dX9_figure_41 ?_
      refine gz_putI (pc := 42) dX9_figure_42 fw_X9_figure_109 rfl rfl rfl (gz_shs c_8) ?_
      refine gz_nmH (fun h_9 eh_9 => ?_)
      have hf := gz_gl eh_9 hf
      refine gz_aload_n (pc := 45) dX9_figure_45 rfl rfl ?_
      refine gz_gk hf (fun c_10 hf => ?_)
      refine gz_gb hf (fun r_11 er_11 hf => ?_)
      refine gz_getR (pc := 46) dX9_figure_46 fl_RX9_34 rfl (gz_shs c_10) er_11 ?_
      refine gz_aload_n (pc := 49) dX9_figure_49 rfl rfl ?_
      refine gz_getI (pc := 50) dX9_figure_50 fl_RX9_106 rfl (gz_shs c_10) ?_
      refine gz_aload_n (pc := 53) dX9_figure_53 rfl rfl ?_
      refine gz_getI (pc := 54) dX9_figure_54 fl_RX9_109 rfl (gz_shs c_10) ?_
      refine gz_iadd (pc := 57) dX9_figure_57 ?_
      refine gz_iconst (v := (1 : Int32)) (pc := 58) dX9_figure_58 rfl ?_
      refine gz_isub (pc := 59) dX9_figure_59 ?_
      refine gz_gk hf (fun c_12 hf => ?_)
      refine gz_iald (pc := 60) dX9_figure_60 c_12 ?_
      refine gz_bipush (v := (48 : Int32)) (pc := 61) dX9_figure_61 rfl ?_
      refine gz_isub (pc := 63) dX9_figure_63 ?_
      exact gz_irt (pc := 64) dX9_figure_64 rfl rfl hf
    · have hf := gz_gT hf c_7
      refine gz_bipush (v := (-9 : Int32)) (pc := 32) dX9_figure_32 rfl ?_
      exact gz_irt (pc := 34) dX9_figure_34 rfl rfl hf
def fX9_figure (a0 : Nat) (x1 : Int32) (x2 : Int32) (h : gz_H) : Option (Int32 × gz_H) := fX9_figure_0 a0 x1 x2 h
theorem sX9_figure {G : gz_G} {d : Nat} {a0 : Nat} {x1 : Int32} {x2 : Int32} {h : gz_H} {Q : Int32 → gz_H → Prop} (hf : gz_g (fX9_figure a0 x1 x2 h) Q) : gz_Cl G mX9_figure (d + 1) 0 0 [.ref a0, .int x1, .int x2] h (gz_qi Q) := gz_cl_of (lo := [.ref a0, .int x1, .int x2]) (by decide) rfl rfl (Nat.le_of_ble_eq_true rfl) (sX9_figure_0 a0 x1 x2 h hf)
theorem dX9_readsFacts_0 : decode cX9_readsFacts 0 = .ok (.aload_n 0, 1) := by decide +kernel
theorem dX9_readsFacts_1 : decode cX9_readsFacts 1 = .ok (.invokevirtual 123, 3) := by decide +kernel
theorem dX9_readsFacts_4 : decode cX9_readsFacts 4 = .ok (.aload_n 0, 1) := by decide +kernel
theorem dX9_readsFacts_5 : decode cX9_readsFacts 5 = .ok (.getfield 109, 3) := by decide +kernel
theorem dX9_readsFacts_8 : decode cX9_readsFacts 8 = .ok (.aload_n 0, 1) := by decide +kernel
theorem dX9_readsFacts_9 : decode cX9_readsFacts 9 = .ok (.getfield 112, 3) := by decide +kernel
theorem dX9_readsFacts_12 : decode cX9_readsFacts 12 = .ok (.if_icmp .eq 12, 3) := by decide +kernel
theorem dX9_readsFacts_15 : decode cX9_readsFacts 15 = .ok (.aload_n 0, 1) := by decide +kernel
theorem dX9_readsFacts_16 : decode cX9_readsFacts 16 = .ok (.invokevirtual 115, 3) := by decide +kernel
theorem dX9_readsFacts_19 : decode cX9_readsFacts 19 = .ok (.bipush 118, 2) := by decide +kernel
theorem dX9_readsFacts_21 : decode cX9_readsFacts 21 = .ok (.if_icmp .eq 5, 3) := by decide +kernel
theorem dX9_readsFacts_24 : decode cX9_readsFacts 24 = .ok (.iconst 0, 1) := by decide +kernel
theorem dX9_readsFacts_25 : decode cX9_readsFacts 25 = .ok (.ireturn, 1) := by decide +kernel
theorem dX9_readsFacts_26 : decode cX9_readsFacts 26 = .ok (.aload_n 0, 1) := by decide +kernel
theorem dX9_readsFacts_27 : decode cX9_readsFacts 27 = .ok (.dup, 1) := by decide +kernel
theorem dX9_readsFacts_28 : decode cX9_readsFacts 28 = .ok (.getfield 109, 3) := by decide +kernel
theorem dX9_readsFacts_31 : decode cX9_readsFacts 31 = .ok (.iconst 1, 1) := by decide +kernel
theorem dX9_readsFacts_32 : decode cX9_readsFacts 32 = .ok (.iadd, 1) := by decide +kernel
theorem dX9_readsFacts_33 : decode cX9_readsFacts 33 = .ok (.putfield 109, 3) := by decide +kernel
theorem dX9_readsFacts_36 : decode cX9_readsFacts 36 = .ok (.iconst 1, 1) := by decide +kernel
theorem dX9_readsFacts_37 : decode cX9_readsFacts 37 = .ok (.istore_n 1, 1) := by decide +kernel
theorem dX9_readsFacts_38 : decode cX9_readsFacts 38 = .ok (.iload_n 1, 1) := by decide +kernel
theorem dX9_readsFacts_39 : decode cX9_readsFacts 39 = .ok (.ifCond .eq 70, 3) := by decide +kernel
theorem dX9_readsFacts_42 : decode cX9_readsFacts 42 = .ok (.aload_n 0, 1) := by decide +kernel
theorem dX9_readsFacts_43 : decode cX9_readsFacts 43 = .ok (.invokevirtual 126, 3) := by decide +kernel
theorem dX9_readsFacts_46 : decode cX9_readsFacts 46 = .ok (.ifCond .eq 63, 3) := by decide +kernel
theorem dX9_readsFacts_49 : decode cX9_readsFacts 49 = .ok (.aload_n 0, 1) := by decide +kernel
theorem dX9_readsFacts_50 : decode cX9_readsFacts 50 = .ok (.getfield 130, 3) := by decide +kernel
theorem dX9_readsFacts_53 : decode cX9_readsFacts 53 = .ok (.bipush 8, 2) := by decide +kernel
theorem dX9_readsFacts_55 : decode cX9_readsFacts 55 = .ok (.if_icmp .ne 8, 3) := by decide +kernel
theorem dX9_readsFacts_58 : decode cX9_readsFacts 58 = .ok (.bipush (-9), 2) := by decide +kernel
theorem dX9_readsFacts_60 : decode cX9_readsFacts 60 = .ok (.goto 9, 3) := by decide +kernel
theorem dX9_readsFacts_63 : decode cX9_readsFacts 63 = .ok (.aload_n 0, 1) := by decide +kernel
theorem dX9_readsFacts_64 : decode cX9_readsFacts 64 = .ok (.iconst 0, 1) := by decide +kernel
theorem dX9_readsFacts_65 : decode cX9_readsFacts 65 = .ok (.iconst 5, 1) := by decide +kernel
theorem dX9_readsFacts_66 : decode cX9_readsFacts 66 = .ok (.invokevirtual 133, 3) := by decide +kernel
theorem dX9_readsFacts_69 : decode cX9_readsFacts 69 = .ok (.istore_n 2, 1) := by decide +kernel
theorem dX9_readsFacts_70 : decode cX9_readsFacts 70 = .ok (.iload_n 2, 1) := by decide +kernel
theorem dX9_readsFacts_71 : decode cX9_readsFacts 71 = .ok (.bipush (-9), 2) := by decide +kernel
theorem dX9_readsFacts_73 : decode cX9_readsFacts 73 = .ok (.if_icmp .eq 7, 3) := by decide +kernel
theorem dX9_readsFacts_76 : decode cX9_readsFacts 76 = .ok (.iconst 1, 1) := by decide +kernel
theorem dX9_readsFacts_77 : decode cX9_readsFacts 77 = .ok (.goto 4, 3) := by decide +kernel
theorem dX9_readsFacts_80 : decode cX9_readsFacts 80 = .ok (.iconst 0, 1) := by decide +kernel
theorem dX9_readsFacts_81 : decode cX9_readsFacts 81 = .ok (.istore_n 1, 1) := by decide +kernel
theorem dX9_readsFacts_82 : decode cX9_readsFacts 82 = .ok (.iload_n 1, 1) := by decide +kernel
theorem dX9_readsFacts_83 : decode cX9_readsFacts 83 = .ok (.ifCond .eq 23, 3) := by decide +kernel
theorem dX9_readsFacts_86 : decode cX9_readsFacts 86 = .ok (.aload_n 0, 1) := by decide +kernel
theorem dX9_readsFacts_87 : decode cX9_readsFacts 87 = .ok (.getfield 44, 3) := by decide +kernel
theorem dX9_readsFacts_90 : decode cX9_readsFacts 90 = .ok (.aload_n 0, 1) := by decide +kernel
theorem dX9_readsFacts_91 : decode cX9_readsFacts 91 = .ok (.getfield 130, 3) := by decide +kernel
theorem dX9_readsFacts_94 : decode cX9_readsFacts 94 = .ok (.iload_n 2, 1) := by decide +kernel
theorem dX9_readsFacts_95 : decode cX9_readsFacts 95 = .ok (.iastore, 1) := by decide +kernel
theorem dX9_readsFacts_96 : decode cX9_readsFacts 96 = .ok (.aload_n 0, 1) := by decide +kernel
theorem dX9_readsFacts_97 : decode cX9_readsFacts 97 = .ok (.dup, 1) := by decide +kernel
theorem dX9_readsFacts_98 : decode cX9_readsFacts 98 = .ok (.getfield 130, 3) := by decide +kernel
theorem dX9_readsFacts_101 : decode cX9_readsFacts 101 = .ok (.iconst 1, 1) := by decide +kernel
theorem dX9_readsFacts_102 : decode cX9_readsFacts 102 = .ok (.iadd, 1) := by decide +kernel
theorem dX9_readsFacts_103 : decode cX9_readsFacts 103 = .ok (.putfield 130, 3) := by decide +kernel
theorem dX9_readsFacts_106 : decode cX9_readsFacts 106 = .ok (.goto (-68), 3) := by decide +kernel
theorem dX9_readsFacts_109 : decode cX9_readsFacts 109 = .ok (.iload_n 1, 1) := by decide +kernel
theorem dX9_readsFacts_110 : decode cX9_readsFacts 110 = .ok (.ifCond .eq 14, 3) := by decide +kernel
theorem dX9_readsFacts_113 : decode cX9_readsFacts 113 = .ok (.aload_n 0, 1) := by decide +kernel
theorem dX9_readsFacts_114 : decode cX9_readsFacts 114 = .ok (.getfield 130, 3) := by decide +kernel
theorem dX9_readsFacts_117 : decode cX9_readsFacts 117 = .ok (.ifCond .le 7, 3) := by decide +kernel
theorem dX9_readsFacts_120 : decode cX9_readsFacts 120 = .ok (.iconst 1, 1) := by decide +kernel
theorem dX9_readsFacts_121 : decode cX9_readsFacts 121 = .ok (.goto 4, 3) := by decide +kernel
theorem dX9_readsFacts_124 : decode cX9_readsFacts 124 = .ok (.iconst 0, 1) := by decide +kernel
theorem dX9_readsFacts_125 : decode cX9_readsFacts 125 = .ok (.ireturn, 1) := by decide +kernel
def fX9_readsFacts_106 (k38 : Nat → Int32 → gz_H → Option (Int32 × gz_H)) (a0 : Nat) (x1 : Int32) (h : gz_H) : Option (Int32 × gz_H) :=
    k38 a0 x1 h
set_option maxRecDepth 100000 in
set_option maxHeartbeats 1000000 in
theorem sX9_readsFacts_106 {G : gz_G} {d l0 s0 : Nat} {Q : Int32 → gz_H → Prop} {k38 : Nat → Int32 → gz_H → Option (Int32 × gz_H)} (hk38 : ∀ (a0 : Nat) (x1 : Int32) (h : gz_H), gz_g (k38 a0 x1 h) Q → gz_Ok G mX9_readsFacts (d + 2, l0, s0, 0, 0) 38 [.ref a0, .int x1, .retAddr 0] [] h (gz_qi Q)) (a0 : Nat) (x1 : Int32) (h : gz_H) (hf : gz_g (fX9_readsFacts_106 k38 a0 x1 h) Q) : gz_Ok G mX9_readsFacts (d + 2, l0, s0, 0, 0) 106 [.ref a0, .int x1, .retAddr 0] [] h (gz_qi Q) := by
  unfold fX9_readsFacts_106 at hf
  refine gz_goto (tgt := 38) (pc := 106) dX9_readsFacts_106 rfl ?_
  exact hk38 a0 x1 h hf
def fX9_readsFacts_81 (k38 : Nat → Int32 → gz_H → Option (Int32 × gz_H)) (a0 : Nat) (x2 : Int32) (w0 : Int32) (h : gz_H) : Option (Int32 × gz_H) :=
    if w0 = 0 then (
     fX9_readsFacts_106 k38 a0 w0 h
    ) else (
     gz_ck (gz_sh h a0 9 29) <|
     gz_br (h.2.2.2 a0 19) fun r_3 =>
     gz_ck (gz_inb h r_3 10 (h.2.1 a0 20)) <|
     gz_lt (uI h r_3 (h.2.1 a0 20).toNatClampNeg x2) fun h_5 =>
     gz_ck (gz_sh h_5 a0 9 29) <|
     gz_lt (uI h_5 a0 20 ((h_5.2.1 a0 20) + (1 : Int32))) fun h_7 =>
     fX9_readsFacts_106 k38 a0 w0 h_7
    )
set_option maxRecDepth 100000 in
set_option maxHeartbeats 1000000 in
theorem sX9_readsFacts_81 {G : gz_G} {d l0 s0 : Nat} {Q : Int32 → gz_H → Prop} {k38 : Nat → Int32 → gz_H → Option (Int32 × gz_H)} (hk38 : ∀ (a0 : Nat) (x1 : Int32) (h : gz_H), gz_g (k38 a0 x1 h) Q → gz_Ok G mX9_readsFacts (d + 2, l0, s0, 0, 0) 38 [.ref a0, .int x1, .retAddr 0] [] h (gz_qi Q)) (a0 : Nat) (x2 : Int32) (w0 : Int32) (h : gz_H) (hf : gz_g (fX9_readsFacts_81 k38 a0 x2 w0 h) Q) : gz_Ok G mX9_readsFacts (d + 2, l0, s0, 0, 0) 81 [.ref a0, .retAddr 0, .int x2] [.int w0] h (gz_qi Q) := by
  unfold fX9_readsFacts_81 at hf
  refine gz_istore_n (lv := [.ref a0, .int w0, .int x2]) (pc := 81) dX9_readsFacts_81 rfl (by decide) rfl ?_
  refine gz_iload_n (pc := 82) dX9_readsFacts_82 rfl rfl ?_
  refine gz_if_eq (tgt := 106) (pc := 83) dX9_readsFacts_83 rfl (fun c_1 => ?_) (fun c_1 => ?_)
  · have hf := gz_gT hf c_1
    refine gz_fg (lv := [.ref a0, .int w0, .retAddr 0]) ⟨Or.inr rfl, ⟨Or.inr rfl, ⟨Or.inl rfl, trivial⟩⟩⟩ ?_
    exact sX9_readsFacts_106 hk38 a0 w0 h hf
  · have hf := gz_gF hf c_1
    refine gz_aload_n (pc := 86) dX9_readsFacts_86 rfl rfl ?_
    refine gz_gk hf (fun c_2 hf => ?_)
    refine gz_gb hf (fun r_3 er_3 hf => ?_)
    refine gz_getR (pc := 87) dX9_readsFacts_87 fl_RX9_44 rfl (gz_shs c_2) er_3 ?_
    refine gz_aload_n (pc := 90) dX9_readsFacts_90 rfl rfl ?_
    refine gz_getI (pc := 91) dX9_readsFacts_91 fl_RX9_130 rfl (gz_shs c_2) ?_
    refine gz_iload_n (pc := 94) dX9_readsFacts_94 rfl rfl ?_
    refine gz_gk hf (fun c_4 hf => ?_)
    refine gz_iast (pc := 95) dX9_readsFacts_95 c_4 ?_
    refine gz_nmH (fun h_5 eh_5 => ?_)
    have hf := gz_gl eh_5 hf
    refine gz_aload_n (pc := 96) dX9_readsFacts_96 rfl rfl ?_
    refine gz_dup (pc := 97) dX9_readsFacts_97 rfl ?_
    refine gz_gk hf (fun c_6 hf => ?_)
    refine gz_getI (pc := 98) dX9_readsFacts_98 fl_RX9_130 rfl (gz_shs c_6) ?_
    refine gz_iconst (v := (1 : Int32)) (pc := 101) dX9_readsFacts_101 rfl ?_
    refine gz_iadd (pc := 102) dX9_readsFacts_102 ?_
    refine gz_putI (pc := 103) dX9_readsFacts_103 fw_X9_readsFacts_130 rfl rfl rfl (gz_shs c_6) ?_
    refine gz_nmH (fun h_7 eh_7 => ?_)
    have hf := gz_gl eh_7 hf
    refine gz_fg (lv := [.ref a0, .int w0, .retAddr 0]) ⟨Or.inr rfl, ⟨Or.inr rfl, ⟨Or.inl rfl, trivial⟩⟩⟩ ?_
    exact sX9_readsFacts_106 hk38 a0 w0 h_7 hf
def fX9_readsFacts_69 (k38 : Nat → Int32 → gz_H → Option (Int32 × gz_H)) (a0 : Nat) (w0 : Int32) (h : gz_H) : Option (Int32 × gz_H) :=
    if w0 = (-9 : Int32) then (
     fX9_readsFacts_81 k38 a0 w0 (0 : Int32) h
    ) else (
     fX9_readsFacts_81 k38 a0 w0 (1 : Int32) h
    )
set_option maxRecDepth 100000 in
set_option maxHeartbeats 1000000 in
theorem sX9_readsFacts_69 {G : gz_G} {d l0 s0 : Nat} {Q : Int32 → gz_H → Prop} {k38 : Nat → Int32 → gz_H → Option (Int32 × gz_H)} (hk38 : ∀ (a0 : Nat) (x1 : Int32) (h : gz_H), gz_g (k38 a0 x1 h) Q → gz_Ok G mX9_readsFacts (d + 2, l0, s0, 0, 0) 38 [.ref a0, .int x1, .retAddr 0] [] h (gz_qi Q)) (a0 : Nat) (w0 : Int32) (h : gz_H) (hf : gz_g (fX9_readsFacts_69 k38 a0 w0 h) Q) : gz_Ok G mX9_readsFacts (d + 2, l0, s0, 0, 0) 69 [.ref a0, .retAddr 0, .retAddr 0] [.int w0] h (gz_qi Q) := by
  unfold fX9_readsFacts_69 at hf
  refine gz_istore_n (lv := [.ref a0, .retAddr 0, .int w0]) (pc := 69) dX9_readsFacts_69 rfl (by decide) rfl ?_
  refine gz_iload_n (pc := 70) dX9_readsFacts_70 rfl rfl ?_
  refine gz_bipush (v := (-9 : Int32)) (pc := 71) dX9_readsFacts_71 rfl ?_
  refine gz_icmp_eq (tgt := 80) (pc := 73) dX9_readsFacts_73 rfl (fun c_1 => ?_) (fun c_1 => ?_)
  · have hf := gz_gT hf c_1
    refine gz_iconst (v := (0 : Int32)) (pc := 80) dX9_readsFacts_80 rfl ?_
    exact sX9_readsFacts_81 hk38 a0 w0 (0 : Int32) h hf
  · have hf := gz_gF hf c_1
    refine gz_iconst (v := (1 : Int32)) (pc := 76) dX9_readsFacts_76 rfl ?_
    refine gz_goto (tgt := 81) (pc := 77) dX9_readsFacts_77 rfl ?_
    exact sX9_readsFacts_81 hk38 a0 w0 (1 : Int32) h hf
def fX9_readsFacts_109  (a0 : Nat) (x1 : Int32) (h : gz_H) : Option (Int32 × gz_H) :=
    if x1 = 0 then (
     some ((0 : Int32), h)
    ) else (
     gz_ck (gz_sh h a0 9 29) <|
     if (h.2.1 a0 20) ≤ 0 then (
      some ((0 : Int32), h)
     ) else (
      some ((1 : Int32), h)
     )
    )
set_option maxRecDepth 100000 in
set_option maxHeartbeats 1000000 in
theorem sX9_readsFacts_109 {G : gz_G} {d l0 s0 : Nat} {Q : Int32 → gz_H → Prop} (a0 : Nat) (x1 : Int32) (h : gz_H) (hf : gz_g (fX9_readsFacts_109  a0 x1 h) Q) : gz_Ok G mX9_readsFacts (d + 2, l0, s0, 0, 0) 109 [.ref a0, .int x1, .retAddr 0] [] h (gz_qi Q) := by
  unfold fX9_readsFacts_109 at hf
  refine gz_iload_n (pc := 109) dX9_readsFacts_109 rfl rfl ?_
  refine gz_if_eq (tgt := 124) (pc := 110) dX9_readsFacts_110 rfl (fun c_1 => ?_) (fun c_1 => ?_)
  · have hf := gz_gT hf c_1
    refine gz_iconst (v := (0 : Int32)) (pc := 124) dX9_readsFacts_124 rfl ?_
    exact gz_irt (pc := 125) dX9_readsFacts_125 rfl rfl hf
  · have hf := gz_gF hf c_1
    refine gz_aload_n (pc := 113) dX9_readsFacts_113 rfl rfl ?_
    refine gz_gk hf (fun c_2 hf => ?_)
    refine gz_getI (pc := 114) dX9_readsFacts_114 fl_RX9_130 rfl (gz_shs c_2) ?_
    refine gz_if_le (tgt := 124) (pc := 117) dX9_readsFacts_117 rfl (fun c_3 => ?_) (fun c_3 => ?_)
    · have hf := gz_gT hf c_3
      refine gz_iconst (v := (0 : Int32)) (pc := 124) dX9_readsFacts_124 rfl ?_
      exact gz_irt (pc := 125) dX9_readsFacts_125 rfl rfl hf
    · have hf := gz_gF hf c_3
      refine gz_iconst (v := (1 : Int32)) (pc := 120) dX9_readsFacts_120 rfl ?_
      refine gz_goto (tgt := 125) (pc := 121) dX9_readsFacts_121 rfl ?_
      exact gz_irt (pc := 125) dX9_readsFacts_125 rfl rfl hf
def fX9_readsFacts_38  : Nat → Nat → Int32 → gz_H → Option (Int32 × gz_H)
  | 0, _, _, _ => none
  | n + 1, a0, x1, h =>
    if x1 = 0 then (
     fX9_readsFacts_109 a0 x1 h
    ) else (
     gz_ck (gz_sh h a0 9 29) <|
     gz_b2 (fX9_isFigure a0 h) fun y_3 h_2 =>
     if y_3 = 0 then (
      fX9_readsFacts_109 a0 x1 h_2
     ) else (
      gz_ck (gz_sh h_2 a0 9 29) <|
      if (h_2.2.1 a0 20) = (8 : Int32) then (
       fX9_readsFacts_69 (fun z0 z1 zh => fX9_readsFacts_38 n z0 z1 zh) a0 (-9 : Int32) h_2
      ) else (
       gz_b2 (fX9_figure a0 (0 : Int32) (5 : Int32) h_2) fun y_9 h_8 =>
       fX9_readsFacts_69 (fun z0 z1 zh => fX9_readsFacts_38 n z0 z1 zh) a0 y_9 h_8
      )
     )
    )
set_option maxRecDepth 100000 in
set_option maxHeartbeats 1000000 in
theorem sX9_readsFacts_38 {G : gz_G} {d l0 s0 : Nat} {Q : Int32 → gz_H → Prop} : ∀ (n : Nat) (a0 : Nat) (x1 : Int32) (h : gz_H), gz_g (fX9_readsFacts_38  n a0 x1 h) Q → gz_Ok G mX9_readsFacts (d + 2, l0, s0, 0, 0) 38 [.ref a0, .int x1, .retAddr 0] [] h (gz_qi Q) := by
  intro n
  induction n with
  | zero => intro a0 x1 h hf; exact False.elim hf
  | succ n ih =>
    intro a0 x1 h hf
    rw [fX9_readsFacts_38] at hf
    refine gz_iload_n (pc := 38) dX9_readsFacts_38 rfl rfl ?_
    refine gz_if_eq (tgt := 109) (pc := 39) dX9_readsFacts_39 rfl (fun c_1 => ?_) (fun c_1 => ?_)
    · have hf := gz_gT hf c_1
      exact sX9_readsFacts_109 a0 x1 h hf
    · have hf := gz_gF hf c_1
      refine gz_aload_n (pc := 42) dX9_readsFacts_42 rfl rfl ?_
      refine gz_gk hf (fun c_4 hf => ?_)
      refine gz_cVI (av := []) (st := []) (pc := 43) dX9_readsFacts_43 kl_RX9_126 rfl (gz_shs c_4) rfl rfl (Nat.le_of_ble_eq_true rfl) (by show d + 0 + 1 + 1 ≤ d + 2; omega) (sX9_isFigure (d := d + 0) (gz_gc hf)) (fun y_3 h_2 hf => ?_)
      refine gz_if_eq (tgt := 109) (pc := 46) dX9_readsFacts_46 rfl (fun c_5 => ?_) (fun c_5 => ?_)
      · have hf := gz_gT hf c_5
        exact sX9_readsFacts_109 a0 x1 h_2 hf
      · have hf := gz_gF hf c_5
        refine gz_aload_n (pc := 49) dX9_readsFacts_49 rfl rfl ?_
        refine gz_gk hf (fun c_6 hf => ?_)
        refine gz_getI (pc := 50) dX9_readsFacts_50 fl_RX9_130 rfl (gz_shs c_6) ?_
        refine gz_bipush (v := (8 : Int32)) (pc := 53) dX9_readsFacts_53 rfl ?_
        refine gz_icmp_ne (tgt := 63) (pc := 55) dX9_readsFacts_55 rfl (fun c_7 => ?_) (fun c_7 => ?_)
        · have hf := gz_gF hf c_7
          refine gz_aload_n (pc := 63) dX9_readsFacts_63 rfl rfl ?_
          refine gz_iconst (v := (0 : Int32)) (pc := 64) dX9_readsFacts_64 rfl ?_
          refine gz_iconst (v := (5 : Int32)) (pc := 65) dX9_readsFacts_65 rfl ?_
          refine gz_cVI (av := [.int (0 : Int32), .int (5 : Int32)]) (st := []) (pc := 66) dX9_readsFacts_66 kl_RX9_133 rfl (gz_shs c_6) rfl rfl (Nat.le_of_ble_eq_true rfl) (by show d + 0 + 1 + 1 ≤ d + 2; omega) (sX9_figure (d := d + 0) (gz_gc hf)) (fun y_9 h_8 hf => ?_)
          refine gz_fg (lv := [.ref a0, .retAddr 0, .retAddr 0]) ⟨Or.inr rfl, ⟨Or.inl rfl, ⟨Or.inl rfl, trivial⟩⟩⟩ ?_
          exact sX9_readsFacts_69 ih a0 y_9 h_8 hf
        · have hf := gz_gT hf c_7
          refine gz_bipush (v := (-9 : Int32)) (pc := 58) dX9_readsFacts_58 rfl ?_
          refine gz_goto (tgt := 69) (pc := 60) dX9_readsFacts_60 rfl ?_
          refine gz_fg (lv := [.ref a0, .retAddr 0, .retAddr 0]) ⟨Or.inr rfl, ⟨Or.inl rfl, ⟨Or.inl rfl, trivial⟩⟩⟩ ?_
          exact sX9_readsFacts_69 ih a0 (-9 : Int32) h_2 hf
def fX9_readsFacts_0  (a0 : Nat) (h : gz_H) : Option (Int32 × gz_H) :=
    gz_ck (gz_sh h a0 9 29) <|
    gz_b2 (fX9_skip a0 h) fun _ h_1 =>
    gz_ck (gz_sh h_1 a0 9 29) <|
    if (h_1.2.1 a0 17) = (h_1.2.1 a0 18) then (
     some ((0 : Int32), h_1)
    ) else (
     gz_b2 (fX9_here a0 h_1) fun y_7 h_6 =>
     if y_7 = (118 : Int32) then (
      gz_ck (gz_sh h_6 a0 9 29) <|
      gz_lt (uI h_6 a0 17 ((h_6.2.1 a0 17) + (1 : Int32))) fun h_10 =>
      fX9_readsFacts_38 gz_fu a0 (1 : Int32) h_10
     ) else (
      some ((0 : Int32), h_6)
     )
    )
set_option maxRecDepth 100000 in
set_option maxHeartbeats 1000000 in
theorem sX9_readsFacts_0 {G : gz_G} {d l0 s0 : Nat} {Q : Int32 → gz_H → Prop} (a0 : Nat) (h : gz_H) (hf : gz_g (fX9_readsFacts_0  a0 h) Q) : gz_Ok G mX9_readsFacts (d + 2, l0, s0, 0, 0) 0 [.ref a0, .retAddr 0, .retAddr 0] [] h (gz_qi Q) := by
  unfold fX9_readsFacts_0 at hf
  refine gz_aload_n (pc := 0) dX9_readsFacts_0 rfl rfl ?_
  refine gz_gk hf (fun c_3 hf => ?_)
  refine gz_cVV (av := []) (st := []) (pc := 1) dX9_readsFacts_1 kl_RX9_123 rfl (gz_shs c_3) rfl rfl (Nat.le_of_ble_eq_true rfl) (by show d + 0 + 1 + 1 ≤ d + 2; omega) (sX9_skip (d := d + 0) (gz_gc hf)) (fun _ h_1 hf => ?_)
  refine gz_aload_n (pc := 4) dX9_readsFacts_4 rfl rfl ?_
  refine gz_gk hf (fun c_4 hf => ?_)
  refine gz_getI (pc := 5) dX9_readsFacts_5 fl_RX9_109 rfl (gz_shs c_4) ?_
  refine gz_aload_n (pc := 8) dX9_readsFacts_8 rfl rfl ?_
  refine gz_getI (pc := 9) dX9_readsFacts_9 fl_RX9_112 rfl (gz_shs c_4) ?_
  refine gz_icmp_eq (tgt := 24) (pc := 12) dX9_readsFacts_12 rfl (fun c_5 => ?_) (fun c_5 => ?_)
  · have hf := gz_gT hf c_5
    refine gz_iconst (v := (0 : Int32)) (pc := 24) dX9_readsFacts_24 rfl ?_
    exact gz_irt (pc := 25) dX9_readsFacts_25 rfl rfl hf
  · have hf := gz_gF hf c_5
    refine gz_aload_n (pc := 15) dX9_readsFacts_15 rfl rfl ?_
    refine gz_cVI (av := []) (st := []) (pc := 16) dX9_readsFacts_16 kl_RX9_115 rfl (gz_shs c_4) rfl rfl (Nat.le_of_ble_eq_true rfl) (by show d + 1 + 0 + 1 ≤ d + 2; omega) (sX9_here (d := d + 1) (gz_gc hf)) (fun y_7 h_6 hf => ?_)
    refine gz_bipush (v := (118 : Int32)) (pc := 19) dX9_readsFacts_19 rfl ?_
    refine gz_icmp_eq (tgt := 26) (pc := 21) dX9_readsFacts_21 rfl (fun c_8 => ?_) (fun c_8 => ?_)
    · have hf := gz_gT hf c_8
      refine gz_aload_n (pc := 26) dX9_readsFacts_26 rfl rfl ?_
      refine gz_dup (pc := 27) dX9_readsFacts_27 rfl ?_
      refine gz_gk hf (fun c_9 hf => ?_)
      refine gz_getI (pc := 28) dX9_readsFacts_28 fl_RX9_109 rfl (gz_shs c_9) ?_
      refine gz_iconst (v := (1 : Int32)) (pc := 31) dX9_readsFacts_31 rfl ?_
      refine gz_iadd (pc := 32) dX9_readsFacts_32 ?_
      refine gz_putI (pc := 33) dX9_readsFacts_33 fw_X9_readsFacts_109 rfl rfl rfl (gz_shs c_9) ?_
      refine gz_nmH (fun h_10 eh_10 => ?_)
      have hf := gz_gl eh_10 hf
      refine gz_iconst (v := (1 : Int32)) (pc := 36) dX9_readsFacts_36 rfl ?_
      refine gz_istore_n (lv := [.ref a0, .int (1 : Int32), .retAddr 0]) (pc := 37) dX9_readsFacts_37 rfl (by decide) rfl ?_
      exact sX9_readsFacts_38 gz_fu a0 (1 : Int32) h_10 hf
    · have hf := gz_gF hf c_8
      refine gz_iconst (v := (0 : Int32)) (pc := 24) dX9_readsFacts_24 rfl ?_
      exact gz_irt (pc := 25) dX9_readsFacts_25 rfl rfl hf
def fX9_readsFacts (a0 : Nat) (h : gz_H) : Option (Int32 × gz_H) := fX9_readsFacts_0 a0 h
theorem sX9_readsFacts {G : gz_G} {d : Nat} {a0 : Nat} {h : gz_H} {Q : Int32 → gz_H → Prop} (hf : gz_g (fX9_readsFacts a0 h) Q) : gz_Cl G mX9_readsFacts (d + 2) 0 0 [.ref a0] h (gz_qi Q) := gz_cl_of (lo := [.ref a0, .retAddr 0, .retAddr 0]) (by decide) rfl rfl (Nat.le_of_ble_eq_true rfl) (sX9_readsFacts_0 a0 h hf)
theorem dX9_kindOfLetter_0 : decode cX9_kindOfLetter 0 = .ok (.iload_n 0, 1) := by decide +kernel
theorem dX9_kindOfLetter_1 : decode cX9_kindOfLetter 1 = .ok (.bipush 103, 2) := by decide +kernel
theorem dX9_kindOfLetter_3 : decode cX9_kindOfLetter 3 = .ok (.if_icmp .ne 7, 3) := by decide +kernel
theorem dX9_kindOfLetter_6 : decode cX9_kindOfLetter 6 = .ok (.iconst 0, 1) := by decide +kernel
theorem dX9_kindOfLetter_7 : decode cX9_kindOfLetter 7 = .ok (.goto 55, 3) := by decide +kernel
theorem dX9_kindOfLetter_10 : decode cX9_kindOfLetter 10 = .ok (.iload_n 0, 1) := by decide +kernel
theorem dX9_kindOfLetter_11 : decode cX9_kindOfLetter 11 = .ok (.bipush 97, 2) := by decide +kernel
theorem dX9_kindOfLetter_13 : decode cX9_kindOfLetter 13 = .ok (.if_icmp .ne 7, 3) := by decide +kernel
theorem dX9_kindOfLetter_16 : decode cX9_kindOfLetter 16 = .ok (.iconst 1, 1) := by decide +kernel
theorem dX9_kindOfLetter_17 : decode cX9_kindOfLetter 17 = .ok (.goto 45, 3) := by decide +kernel
theorem dX9_kindOfLetter_20 : decode cX9_kindOfLetter 20 = .ok (.iload_n 0, 1) := by decide +kernel
theorem dX9_kindOfLetter_21 : decode cX9_kindOfLetter 21 = .ok (.bipush 116, 2) := by decide +kernel
theorem dX9_kindOfLetter_23 : decode cX9_kindOfLetter 23 = .ok (.if_icmp .ne 7, 3) := by decide +kernel
theorem dX9_kindOfLetter_26 : decode cX9_kindOfLetter 26 = .ok (.iconst 2, 1) := by decide +kernel
theorem dX9_kindOfLetter_27 : decode cX9_kindOfLetter 27 = .ok (.goto 35, 3) := by decide +kernel
theorem dX9_kindOfLetter_30 : decode cX9_kindOfLetter 30 = .ok (.iload_n 0, 1) := by decide +kernel
theorem dX9_kindOfLetter_31 : decode cX9_kindOfLetter 31 = .ok (.bipush 104, 2) := by decide +kernel
theorem dX9_kindOfLetter_33 : decode cX9_kindOfLetter 33 = .ok (.if_icmp .ne 7, 3) := by decide +kernel
theorem dX9_kindOfLetter_36 : decode cX9_kindOfLetter 36 = .ok (.iconst 3, 1) := by decide +kernel
theorem dX9_kindOfLetter_37 : decode cX9_kindOfLetter 37 = .ok (.goto 25, 3) := by decide +kernel
theorem dX9_kindOfLetter_40 : decode cX9_kindOfLetter 40 = .ok (.iload_n 0, 1) := by decide +kernel
theorem dX9_kindOfLetter_41 : decode cX9_kindOfLetter 41 = .ok (.bipush 108, 2) := by decide +kernel
theorem dX9_kindOfLetter_43 : decode cX9_kindOfLetter 43 = .ok (.if_icmp .ne 7, 3) := by decide +kernel
theorem dX9_kindOfLetter_46 : decode cX9_kindOfLetter 46 = .ok (.iconst 4, 1) := by decide +kernel
theorem dX9_kindOfLetter_47 : decode cX9_kindOfLetter 47 = .ok (.goto 15, 3) := by decide +kernel
theorem dX9_kindOfLetter_50 : decode cX9_kindOfLetter 50 = .ok (.iload_n 0, 1) := by decide +kernel
theorem dX9_kindOfLetter_51 : decode cX9_kindOfLetter 51 = .ok (.bipush 115, 2) := by decide +kernel
theorem dX9_kindOfLetter_53 : decode cX9_kindOfLetter 53 = .ok (.if_icmp .ne 7, 3) := by decide +kernel
theorem dX9_kindOfLetter_56 : decode cX9_kindOfLetter 56 = .ok (.iconst 5, 1) := by decide +kernel
theorem dX9_kindOfLetter_57 : decode cX9_kindOfLetter 57 = .ok (.goto 5, 3) := by decide +kernel
theorem dX9_kindOfLetter_60 : decode cX9_kindOfLetter 60 = .ok (.bipush (-9), 2) := by decide +kernel
theorem dX9_kindOfLetter_62 : decode cX9_kindOfLetter 62 = .ok (.ireturn, 1) := by decide +kernel
def fX9_kindOfLetter_0  (x0 : Int32) (h : gz_H) : Option (Int32 × gz_H) :=
    if x0 = (103 : Int32) then (
     some ((0 : Int32), h)
    ) else (
     if x0 = (97 : Int32) then (
      some ((1 : Int32), h)
     ) else (
      if x0 = (116 : Int32) then (
       some ((2 : Int32), h)
      ) else (
       if x0 = (104 : Int32) then (
        some ((3 : Int32), h)
       ) else (
        if x0 = (108 : Int32) then (
         some ((4 : Int32), h)
        ) else (
         if x0 = (115 : Int32) then (
          some ((5 : Int32), h)
         ) else (
          some ((-9 : Int32), h)
         )
        )
       )
      )
     )
    )
set_option maxRecDepth 100000 in
set_option maxHeartbeats 1000000 in
theorem sX9_kindOfLetter_0 {G : gz_G} {d l0 s0 : Nat} {Q : Int32 → gz_H → Prop} (x0 : Int32) (h : gz_H) (hf : gz_g (fX9_kindOfLetter_0  x0 h) Q) : gz_Ok G mX9_kindOfLetter (d + 0, l0, s0, 0, 0) 0 [.int x0] [] h (gz_qi Q) := by
  unfold fX9_kindOfLetter_0 at hf
  refine gz_iload_n (pc := 0) dX9_kindOfLetter_0 rfl rfl ?_
  refine gz_bipush (v := (103 : Int32)) (pc := 1) dX9_kindOfLetter_1 rfl ?_
  refine gz_icmp_ne (tgt := 10) (pc := 3) dX9_kindOfLetter_3 rfl (fun c_1 => ?_) (fun c_1 => ?_)
  · have hf := gz_gF hf c_1
    refine gz_iload_n (pc := 10) dX9_kindOfLetter_10 rfl rfl ?_
    refine gz_bipush (v := (97 : Int32)) (pc := 11) dX9_kindOfLetter_11 rfl ?_
    refine gz_icmp_ne (tgt := 20) (pc := 13) dX9_kindOfLetter_13 rfl (fun c_2 => ?_) (fun c_2 => ?_)
    · have hf := gz_gF hf c_2
      refine gz_iload_n (pc := 20) dX9_kindOfLetter_20 rfl rfl ?_
      refine gz_bipush (v := (116 : Int32)) (pc := 21) dX9_kindOfLetter_21 rfl ?_
      refine gz_icmp_ne (tgt := 30) (pc := 23) dX9_kindOfLetter_23 rfl (fun c_3 => ?_) (fun c_3 => ?_)
      · have hf := gz_gF hf c_3
        refine gz_iload_n (pc := 30) dX9_kindOfLetter_30 rfl rfl ?_
        refine gz_bipush (v := (104 : Int32)) (pc := 31) dX9_kindOfLetter_31 rfl ?_
        refine gz_icmp_ne (tgt := 40) (pc := 33) dX9_kindOfLetter_33 rfl (fun c_4 => ?_) (fun c_4 => ?_)
        · have hf := gz_gF hf c_4
          refine gz_iload_n (pc := 40) dX9_kindOfLetter_40 rfl rfl ?_
          refine gz_bipush (v := (108 : Int32)) (pc := 41) dX9_kindOfLetter_41 rfl ?_
          refine gz_icmp_ne (tgt := 50) (pc := 43) dX9_kindOfLetter_43 rfl (fun c_5 => ?_) (fun c_5 => ?_)
          · have hf := gz_gF hf c_5
            refine gz_iload_n (pc := 50) dX9_kindOfLetter_50 rfl rfl ?_
            refine gz_bipush (v := (115 : Int32)) (pc := 51) dX9_kindOfLetter_51 rfl ?_
            refine gz_icmp_ne (tgt := 60) (pc := 53) dX9_kindOfLetter_53 rfl (fun c_6 => ?_) (fun c_6 => ?_)
            · have hf := gz_gF hf c_6
              refine gz_bipush (v := (-9 : Int32)) (pc := 60) dX9_kindOfLetter_60 rfl ?_
              exact gz_irt (pc := 62) dX9_kindOfLetter_62 rfl rfl hf
            · have hf := gz_gT hf c_6
              refine gz_iconst (v := (5 : Int32)) (pc := 56) dX9_kindOfLetter_56 rfl ?_
              refine gz_goto (tgt := 62) (pc := 57) dX9_kindOfLetter_57 rfl ?_
              exact gz_irt (pc := 62) dX9_kindOfLetter_62 rfl rfl hf
          · have hf := gz_gT hf c_5
            refine gz_iconst (v := (4 : Int32)) (pc := 46) dX9_kindOfLetter_46 rfl ?_
            refine gz_goto (tgt := 62) (pc := 47) dX9_kindOfLetter_47 rfl ?_
            exact gz_irt (pc := 62) dX9_kindOfLetter_62 rfl rfl hf
        · have hf := gz_gT hf c_4
          refine gz_iconst (v := (3 : Int32)) (pc := 36) dX9_kindOfLetter_36 rfl ?_
          refine gz_goto (tgt := 62) (pc := 37) dX9_kindOfLetter_37 rfl ?_
          exact gz_irt (pc := 62) dX9_kindOfLetter_62 rfl rfl hf
      · have hf := gz_gT hf c_3
        refine gz_iconst (v := (2 : Int32)) (pc := 26) dX9_kindOfLetter_26 rfl ?_
        refine gz_goto (tgt := 62) (pc := 27) dX9_kindOfLetter_27 rfl ?_
        exact gz_irt (pc := 62) dX9_kindOfLetter_62 rfl rfl hf
    · have hf := gz_gT hf c_2
      refine gz_iconst (v := (1 : Int32)) (pc := 16) dX9_kindOfLetter_16 rfl ?_
      refine gz_goto (tgt := 62) (pc := 17) dX9_kindOfLetter_17 rfl ?_
      exact gz_irt (pc := 62) dX9_kindOfLetter_62 rfl rfl hf
  · have hf := gz_gT hf c_1
    refine gz_iconst (v := (0 : Int32)) (pc := 6) dX9_kindOfLetter_6 rfl ?_
    refine gz_goto (tgt := 62) (pc := 7) dX9_kindOfLetter_7 rfl ?_
    exact gz_irt (pc := 62) dX9_kindOfLetter_62 rfl rfl hf
def fX9_kindOfLetter (x0 : Int32) (h : gz_H) : Option (Int32 × gz_H) := fX9_kindOfLetter_0 x0 h
theorem sX9_kindOfLetter {G : gz_G} {d : Nat} {x0 : Int32} {h : gz_H} {Q : Int32 → gz_H → Prop} (hf : gz_g (fX9_kindOfLetter x0 h) Q) : gz_Cl G mX9_kindOfLetter (d + 0) 0 0 [.int x0] h (gz_qi Q) := gz_cl_of (lo := [.int x0]) (by decide) rfl rfl (Nat.le_of_ble_eq_true rfl) (sX9_kindOfLetter_0 x0 h hf)
theorem dX9_readsGoose_0 : decode cX9_readsGoose 0 = .ok (.aload_n 0, 1) := by decide +kernel
theorem dX9_readsGoose_1 : decode cX9_readsGoose 1 = .ok (.invokevirtual 115, 3) := by decide +kernel
theorem dX9_readsGoose_4 : decode cX9_readsGoose 4 = .ok (.invokestatic 136, 3) := by decide +kernel
theorem dX9_readsGoose_7 : decode cX9_readsGoose 7 = .ok (.istore_n 1, 1) := by decide +kernel
theorem dX9_readsGoose_8 : decode cX9_readsGoose 8 = .ok (.iload_n 1, 1) := by decide +kernel
theorem dX9_readsGoose_9 : decode cX9_readsGoose 9 = .ok (.bipush (-9), 2) := by decide +kernel
theorem dX9_readsGoose_11 : decode cX9_readsGoose 11 = .ok (.if_icmp .eq 12, 3) := by decide +kernel
theorem dX9_readsGoose_14 : decode cX9_readsGoose 14 = .ok (.aload_n 0, 1) := by decide +kernel
theorem dX9_readsGoose_15 : decode cX9_readsGoose 15 = .ok (.getfield 139, 3) := by decide +kernel
theorem dX9_readsGoose_18 : decode cX9_readsGoose 18 = .ok (.bipush 6, 2) := by decide +kernel
theorem dX9_readsGoose_20 : decode cX9_readsGoose 20 = .ok (.if_icmp .ne 5, 3) := by decide +kernel
theorem dX9_readsGoose_23 : decode cX9_readsGoose 23 = .ok (.iconst 0, 1) := by decide +kernel
theorem dX9_readsGoose_24 : decode cX9_readsGoose 24 = .ok (.ireturn, 1) := by decide +kernel
theorem dX9_readsGoose_25 : decode cX9_readsGoose 25 = .ok (.aload_n 0, 1) := by decide +kernel
theorem dX9_readsGoose_26 : decode cX9_readsGoose 26 = .ok (.dup, 1) := by decide +kernel
theorem dX9_readsGoose_27 : decode cX9_readsGoose 27 = .ok (.getfield 109, 3) := by decide +kernel
theorem dX9_readsGoose_30 : decode cX9_readsGoose 30 = .ok (.iconst 1, 1) := by decide +kernel
theorem dX9_readsGoose_31 : decode cX9_readsGoose 31 = .ok (.iadd, 1) := by decide +kernel
theorem dX9_readsGoose_32 : decode cX9_readsGoose 32 = .ok (.putfield 109, 3) := by decide +kernel
theorem dX9_readsGoose_35 : decode cX9_readsGoose 35 = .ok (.aload_n 0, 1) := by decide +kernel
theorem dX9_readsGoose_36 : decode cX9_readsGoose 36 = .ok (.iconst 1, 1) := by decide +kernel
theorem dX9_readsGoose_37 : decode cX9_readsGoose 37 = .ok (.bipush 8, 2) := by decide +kernel
theorem dX9_readsGoose_39 : decode cX9_readsGoose 39 = .ok (.invokevirtual 133, 3) := by decide +kernel
theorem dX9_readsGoose_42 : decode cX9_readsGoose 42 = .ok (.istore_n 2, 1) := by decide +kernel
theorem dX9_readsGoose_43 : decode cX9_readsGoose 43 = .ok (.iload_n 2, 1) := by decide +kernel
theorem dX9_readsGoose_44 : decode cX9_readsGoose 44 = .ok (.bipush (-9), 2) := by decide +kernel
theorem dX9_readsGoose_46 : decode cX9_readsGoose 46 = .ok (.if_icmp .ne 8, 3) := by decide +kernel
theorem dX9_readsGoose_49 : decode cX9_readsGoose 49 = .ok (.bipush (-9), 2) := by decide +kernel
theorem dX9_readsGoose_51 : decode cX9_readsGoose 51 = .ok (.goto 10, 3) := by decide +kernel
theorem dX9_readsGoose_54 : decode cX9_readsGoose 54 = .ok (.aload_n 0, 1) := by decide +kernel
theorem dX9_readsGoose_55 : decode cX9_readsGoose 55 = .ok (.iconst 0, 1) := by decide +kernel
theorem dX9_readsGoose_56 : decode cX9_readsGoose 56 = .ok (.bipush 9, 2) := by decide +kernel
theorem dX9_readsGoose_58 : decode cX9_readsGoose 58 = .ok (.invokevirtual 133, 3) := by decide +kernel
theorem dX9_readsGoose_61 : decode cX9_readsGoose 61 = .ok (.istore_n 3, 1) := by decide +kernel
theorem dX9_readsGoose_62 : decode cX9_readsGoose 62 = .ok (.iload_n 3, 1) := by decide +kernel
theorem dX9_readsGoose_63 : decode cX9_readsGoose 63 = .ok (.bipush (-9), 2) := by decide +kernel
theorem dX9_readsGoose_65 : decode cX9_readsGoose 65 = .ok (.if_icmp .ne 5, 3) := by decide +kernel
theorem dX9_readsGoose_68 : decode cX9_readsGoose 68 = .ok (.iconst 0, 1) := by decide +kernel
theorem dX9_readsGoose_69 : decode cX9_readsGoose 69 = .ok (.ireturn, 1) := by decide +kernel
theorem dX9_readsGoose_70 : decode cX9_readsGoose 70 = .ok (.iconst 0, 1) := by decide +kernel
theorem dX9_readsGoose_71 : decode cX9_readsGoose 71 = .ok (.istore 4, 2) := by decide +kernel
theorem dX9_readsGoose_73 : decode cX9_readsGoose 73 = .ok (.iconst 0, 1) := by decide +kernel
theorem dX9_readsGoose_74 : decode cX9_readsGoose 74 = .ok (.istore 5, 2) := by decide +kernel
theorem dX9_readsGoose_76 : decode cX9_readsGoose 76 = .ok (.aload_n 0, 1) := by decide +kernel
theorem dX9_readsGoose_77 : decode cX9_readsGoose 77 = .ok (.invokevirtual 126, 3) := by decide +kernel
theorem dX9_readsGoose_80 : decode cX9_readsGoose 80 = .ok (.ifCond .eq 81, 3) := by decide +kernel
theorem dX9_readsGoose_83 : decode cX9_readsGoose 83 = .ok (.aload_n 0, 1) := by decide +kernel
theorem dX9_readsGoose_84 : decode cX9_readsGoose 84 = .ok (.invokevirtual 115, 3) := by decide +kernel
theorem dX9_readsGoose_87 : decode cX9_readsGoose 87 = .ok (.bipush 48, 2) := by decide +kernel
theorem dX9_readsGoose_89 : decode cX9_readsGoose 89 = .ok (.isub, 1) := by decide +kernel
theorem dX9_readsGoose_90 : decode cX9_readsGoose 90 = .ok (.istore 6, 2) := by decide +kernel
theorem dX9_readsGoose_92 : decode cX9_readsGoose 92 = .ok (.iload 6, 2) := by decide +kernel
theorem dX9_readsGoose_94 : decode cX9_readsGoose 94 = .ok (.aload_n 0, 1) := by decide +kernel
theorem dX9_readsGoose_95 : decode cX9_readsGoose 95 = .ok (.getfield 130, 3) := by decide +kernel
theorem dX9_readsGoose_98 : decode cX9_readsGoose 98 = .ok (.if_icmp .ge 19, 3) := by decide +kernel
theorem dX9_readsGoose_101 : decode cX9_readsGoose 101 = .ok (.iload 5, 2) := by decide +kernel
theorem dX9_readsGoose_103 : decode cX9_readsGoose 103 = .ok (.iload 6, 2) := by decide +kernel
theorem dX9_readsGoose_105 : decode cX9_readsGoose 105 = .ok (.invokestatic 142, 3) := by decide +kernel
theorem dX9_readsGoose_108 : decode cX9_readsGoose 108 = .ok (.ifCond .ne 9, 3) := by decide +kernel
theorem dX9_readsGoose_111 : decode cX9_readsGoose 111 = .ok (.iload 4, 2) := by decide +kernel
theorem dX9_readsGoose_113 : decode cX9_readsGoose 113 = .ok (.iload_n 2, 1) := by decide +kernel
theorem dX9_readsGoose_114 : decode cX9_readsGoose 114 = .ok (.if_icmp .ne 5, 3) := by decide +kernel
theorem dX9_readsGoose_117 : decode cX9_readsGoose 117 = .ok (.iconst 0, 1) := by decide +kernel
theorem dX9_readsGoose_118 : decode cX9_readsGoose 118 = .ok (.ireturn, 1) := by decide +kernel
theorem dX9_readsGoose_119 : decode cX9_readsGoose 119 = .ok (.iload 5, 2) := by decide +kernel
theorem dX9_readsGoose_121 : decode cX9_readsGoose 121 = .ok (.iconst 1, 1) := by decide +kernel
theorem dX9_readsGoose_122 : decode cX9_readsGoose 122 = .ok (.iload 6, 2) := by decide +kernel
theorem dX9_readsGoose_124 : decode cX9_readsGoose 124 = .ok (.ishl, 1) := by decide +kernel
theorem dX9_readsGoose_125 : decode cX9_readsGoose 125 = .ok (.ior, 1) := by decide +kernel
theorem dX9_readsGoose_126 : decode cX9_readsGoose 126 = .ok (.istore 5, 2) := by decide +kernel
theorem dX9_readsGoose_128 : decode cX9_readsGoose 128 = .ok (.aload_n 0, 1) := by decide +kernel
theorem dX9_readsGoose_129 : decode cX9_readsGoose 129 = .ok (.getfield 53, 3) := by decide +kernel
theorem dX9_readsGoose_132 : decode cX9_readsGoose 132 = .ok (.bipush 8, 2) := by decide +kernel
theorem dX9_readsGoose_134 : decode cX9_readsGoose 134 = .ok (.aload_n 0, 1) := by decide +kernel
theorem dX9_readsGoose_135 : decode cX9_readsGoose 135 = .ok (.getfield 139, 3) := by decide +kernel
theorem dX9_readsGoose_138 : decode cX9_readsGoose 138 = .ok (.imul, 1) := by decide +kernel
theorem dX9_readsGoose_139 : decode cX9_readsGoose 139 = .ok (.iload 4, 2) := by decide +kernel
theorem dX9_readsGoose_141 : decode cX9_readsGoose 141 = .ok (.iadd, 1) := by decide +kernel
theorem dX9_readsGoose_142 : decode cX9_readsGoose 142 = .ok (.iload 6, 2) := by decide +kernel
theorem dX9_readsGoose_144 : decode cX9_readsGoose 144 = .ok (.iastore, 1) := by decide +kernel
theorem dX9_readsGoose_145 : decode cX9_readsGoose 145 = .ok (.iinc 4 1, 3) := by decide +kernel
theorem dX9_readsGoose_148 : decode cX9_readsGoose 148 = .ok (.aload_n 0, 1) := by decide +kernel
theorem dX9_readsGoose_149 : decode cX9_readsGoose 149 = .ok (.dup, 1) := by decide +kernel
theorem dX9_readsGoose_150 : decode cX9_readsGoose 150 = .ok (.getfield 109, 3) := by decide +kernel
theorem dX9_readsGoose_153 : decode cX9_readsGoose 153 = .ok (.iconst 1, 1) := by decide +kernel
theorem dX9_readsGoose_154 : decode cX9_readsGoose 154 = .ok (.iadd, 1) := by decide +kernel
theorem dX9_readsGoose_155 : decode cX9_readsGoose 155 = .ok (.putfield 109, 3) := by decide +kernel
theorem dX9_readsGoose_158 : decode cX9_readsGoose 158 = .ok (.goto (-82), 3) := by decide +kernel
theorem dX9_readsGoose_161 : decode cX9_readsGoose 161 = .ok (.aload_n 0, 1) := by decide +kernel
theorem dX9_readsGoose_162 : decode cX9_readsGoose 162 = .ok (.getfield 47, 3) := by decide +kernel
theorem dX9_readsGoose_165 : decode cX9_readsGoose 165 = .ok (.iconst 3, 1) := by decide +kernel
theorem dX9_readsGoose_166 : decode cX9_readsGoose 166 = .ok (.aload_n 0, 1) := by decide +kernel
theorem dX9_readsGoose_167 : decode cX9_readsGoose 167 = .ok (.getfield 139, 3) := by decide +kernel
theorem dX9_readsGoose_170 : decode cX9_readsGoose 170 = .ok (.imul, 1) := by decide +kernel
theorem dX9_readsGoose_171 : decode cX9_readsGoose 171 = .ok (.iload_n 1, 1) := by decide +kernel
theorem dX9_readsGoose_172 : decode cX9_readsGoose 172 = .ok (.iastore, 1) := by decide +kernel
theorem dX9_readsGoose_173 : decode cX9_readsGoose 173 = .ok (.aload_n 0, 1) := by decide +kernel
theorem dX9_readsGoose_174 : decode cX9_readsGoose 174 = .ok (.getfield 47, 3) := by decide +kernel
theorem dX9_readsGoose_177 : decode cX9_readsGoose 177 = .ok (.iconst 3, 1) := by decide +kernel
theorem dX9_readsGoose_178 : decode cX9_readsGoose 178 = .ok (.aload_n 0, 1) := by decide +kernel
theorem dX9_readsGoose_179 : decode cX9_readsGoose 179 = .ok (.getfield 139, 3) := by decide +kernel
theorem dX9_readsGoose_182 : decode cX9_readsGoose 182 = .ok (.imul, 1) := by decide +kernel
theorem dX9_readsGoose_183 : decode cX9_readsGoose 183 = .ok (.iconst 1, 1) := by decide +kernel
theorem dX9_readsGoose_184 : decode cX9_readsGoose 184 = .ok (.iadd, 1) := by decide +kernel
theorem dX9_readsGoose_185 : decode cX9_readsGoose 185 = .ok (.iload_n 2, 1) := by decide +kernel
theorem dX9_readsGoose_186 : decode cX9_readsGoose 186 = .ok (.iastore, 1) := by decide +kernel
theorem dX9_readsGoose_187 : decode cX9_readsGoose 187 = .ok (.aload_n 0, 1) := by decide +kernel
theorem dX9_readsGoose_188 : decode cX9_readsGoose 188 = .ok (.getfield 47, 3) := by decide +kernel
theorem dX9_readsGoose_191 : decode cX9_readsGoose 191 = .ok (.iconst 3, 1) := by decide +kernel
theorem dX9_readsGoose_192 : decode cX9_readsGoose 192 = .ok (.aload_n 0, 1) := by decide +kernel
theorem dX9_readsGoose_193 : decode cX9_readsGoose 193 = .ok (.getfield 139, 3) := by decide +kernel
theorem dX9_readsGoose_196 : decode cX9_readsGoose 196 = .ok (.imul, 1) := by decide +kernel
theorem dX9_readsGoose_197 : decode cX9_readsGoose 197 = .ok (.iconst 2, 1) := by decide +kernel
theorem dX9_readsGoose_198 : decode cX9_readsGoose 198 = .ok (.iadd, 1) := by decide +kernel
theorem dX9_readsGoose_199 : decode cX9_readsGoose 199 = .ok (.iload_n 3, 1) := by decide +kernel
theorem dX9_readsGoose_200 : decode cX9_readsGoose 200 = .ok (.iastore, 1) := by decide +kernel
theorem dX9_readsGoose_201 : decode cX9_readsGoose 201 = .ok (.aload_n 0, 1) := by decide +kernel
theorem dX9_readsGoose_202 : decode cX9_readsGoose 202 = .ok (.getfield 50, 3) := by decide +kernel
theorem dX9_readsGoose_205 : decode cX9_readsGoose 205 = .ok (.aload_n 0, 1) := by decide +kernel
theorem dX9_readsGoose_206 : decode cX9_readsGoose 206 = .ok (.getfield 139, 3) := by decide +kernel
theorem dX9_readsGoose_209 : decode cX9_readsGoose 209 = .ok (.iload 4, 2) := by decide +kernel
theorem dX9_readsGoose_211 : decode cX9_readsGoose 211 = .ok (.iastore, 1) := by decide +kernel
theorem dX9_readsGoose_212 : decode cX9_readsGoose 212 = .ok (.aload_n 0, 1) := by decide +kernel
theorem dX9_readsGoose_213 : decode cX9_readsGoose 213 = .ok (.dup, 1) := by decide +kernel
theorem dX9_readsGoose_214 : decode cX9_readsGoose 214 = .ok (.getfield 139, 3) := by decide +kernel
theorem dX9_readsGoose_217 : decode cX9_readsGoose 217 = .ok (.iconst 1, 1) := by decide +kernel
theorem dX9_readsGoose_218 : decode cX9_readsGoose 218 = .ok (.iadd, 1) := by decide +kernel
theorem dX9_readsGoose_219 : decode cX9_readsGoose 219 = .ok (.putfield 139, 3) := by decide +kernel
theorem dX9_readsGoose_222 : decode cX9_readsGoose 222 = .ok (.iconst 1, 1) := by decide +kernel
theorem dX9_readsGoose_223 : decode cX9_readsGoose 223 = .ok (.ireturn, 1) := by decide +kernel
def fX9_readsGoose_76  : Nat → Nat → Int32 → Int32 → Int32 → Int32 → Int32 → gz_H → Option (Int32 × gz_H)
  | 0, _, _, _, _, _, _, _ => none
  | n + 1, a0, x1, x2, x3, x4, x5, h =>
    gz_ck (gz_sh h a0 9 29) <|
    gz_b2 (fX9_isFigure a0 h) fun y_2 h_1 =>
    if y_2 = 0 then (
     gz_ck (gz_sh h_1 a0 9 29) <|
     gz_br (h_1.2.2.2 a0 21) fun r_6 =>
     gz_ck (gz_inb h_1 r_6 10 ((3 : Int32) * (h_1.2.1 a0 24))) <|
     gz_lt (uI h_1 r_6 ((3 : Int32) * (h_1.2.1 a0 24)).toNatClampNeg x1) fun h_8 =>
     gz_ck (gz_sh h_8 a0 9 29) <|
     gz_br (h_8.2.2.2 a0 21) fun r_10 =>
     gz_ck (gz_inb h_8 r_10 10 (((3 : Int32) * (h_8.2.1 a0 24)) + (1 : Int32))) <|
     gz_lt (uI h_8 r_10 (((3 : Int32) * (h_8.2.1 a0 24)) + (1 : Int32)).toNatClampNeg x2) fun h_12 =>
     gz_ck (gz_sh h_12 a0 9 29) <|
     gz_br (h_12.2.2.2 a0 21) fun r_14 =>
     gz_ck (gz_inb h_12 r_14 10 (((3 : Int32) * (h_12.2.1 a0 24)) + (2 : Int32))) <|
     gz_lt (uI h_12 r_14 (((3 : Int32) * (h_12.2.1 a0 24)) + (2 : Int32)).toNatClampNeg x3) fun h_16 =>
     gz_ck (gz_sh h_16 a0 9 29) <|
     gz_br (h_16.2.2.2 a0 22) fun r_18 =>
     gz_ck (gz_inb h_16 r_18 10 (h_16.2.1 a0 24)) <|
     gz_lt (uI h_16 r_18 (h_16.2.1 a0 24).toNatClampNeg x4) fun h_20 =>
     gz_ck (gz_sh h_20 a0 9 29) <|
     gz_lt (uI h_20 a0 24 ((h_20.2.1 a0 24) + (1 : Int32))) fun h_22 =>
     some ((1 : Int32), h_22)
    ) else (
     gz_ck (gz_sh h_1 a0 9 29) <|
     gz_b2 (fX9_here a0 h_1) fun y_24 h_23 =>
     gz_ck (gz_sh h_23 a0 9 29) <|
     if (h_23.2.1 a0 20) ≤ (y_24 - (48 : Int32)) then (
      some ((0 : Int32), h_23)
     ) else (
      gz_b2 (fX9_has x5 (y_24 - (48 : Int32)) h_23) fun y_29 h_28 =>
      if y_29 = 0 then (
       if x4 = x2 then (
        some ((0 : Int32), h_28)
       ) else (
        gz_lt (x5 ||| ((1 : Int32) <<< ((y_24 - (48 : Int32)) &&& 31))) fun (y_32 : Int32) =>
        gz_ck (gz_sh h_28 a0 9 29) <|
        gz_br (h_28.2.2.2 a0 23) fun r_34 =>
        gz_ck (gz_inb h_28 r_34 10 (((8 : Int32) * (h_28.2.1 a0 24)) + x4)) <|
        gz_lt (uI h_28 r_34 (((8 : Int32) * (h_28.2.1 a0 24)) + x4).toNatClampNeg (y_24 - (48 : Int32))) fun h_36 =>
        gz_ck (gz_sh h_36 a0 9 29) <|
        gz_lt (uI h_36 a0 17 ((h_36.2.1 a0 17) + (1 : Int32))) fun h_38 =>
        fX9_readsGoose_76 n a0 x1 x2 x3 (x4 + 1) y_32 h_38
       )
      ) else (
       some ((0 : Int32), h_28)
      )
     )
    )
set_option maxRecDepth 100000 in
set_option maxHeartbeats 1000000 in
theorem sX9_readsGoose_76 {G : gz_G} {d l0 s0 : Nat} {Q : Int32 → gz_H → Prop} : ∀ (n : Nat) (a0 : Nat) (x1 : Int32) (x2 : Int32) (x3 : Int32) (x4 : Int32) (x5 : Int32) (h : gz_H), gz_g (fX9_readsGoose_76  n a0 x1 x2 x3 x4 x5 h) Q → gz_Ok G mX9_readsGoose (d + 2, l0, s0, 0, 0) 76 [.ref a0, .int x1, .int x2, .int x3, .int x4, .int x5, .retAddr 0] [] h (gz_qi Q) := by
  intro n
  induction n with
  | zero => intro a0 x1 x2 x3 x4 x5 h hf; exact False.elim hf
  | succ n ih =>
    intro a0 x1 x2 x3 x4 x5 h hf
    rw [fX9_readsGoose_76] at hf
    refine gz_aload_n (pc := 76) dX9_readsGoose_76 rfl rfl ?_
    refine gz_gk hf (fun c_3 hf => ?_)
    refine gz_cVI (av := []) (st := []) (pc := 77) dX9_readsGoose_77 kl_RX9_126 rfl (gz_shs c_3) rfl rfl (Nat.le_of_ble_eq_true rfl) (by show d + 0 + 1 + 1 ≤ d + 2; omega) (sX9_isFigure (d := d + 0) (gz_gc hf)) (fun y_2 h_1 hf => ?_)
    refine gz_if_eq (tgt := 161) (pc := 80) dX9_readsGoose_80 rfl (fun c_4 => ?_) (fun c_4 => ?_)
    · have hf := gz_gT hf c_4
      refine gz_aload_n (pc := 161) dX9_readsGoose_161 rfl rfl ?_
      refine gz_gk hf (fun c_5 hf => ?_)
      refine gz_gb hf (fun r_6 er_6 hf => ?_)
      refine gz_getR (pc := 162) dX9_readsGoose_162 fl_RX9_47 rfl (gz_shs c_5) er_6 ?_
      refine gz_iconst (v := (3 : Int32)) (pc := 165) dX9_readsGoose_165 rfl ?_
      refine gz_aload_n (pc := 166) dX9_readsGoose_166 rfl rfl ?_
      refine gz_getI (pc := 167) dX9_readsGoose_167 fl_RX9_139 rfl (gz_shs c_5) ?_
      refine gz_imul (pc := 170) dX9_readsGoose_170 ?_
      refine gz_iload_n (pc := 171) dX9_readsGoose_171 rfl rfl ?_
      refine gz_gk hf (fun c_7 hf => ?_)
      refine gz_iast (pc := 172) dX9_readsGoose_172 c_7 ?_
      refine gz_nmH (fun h_8 eh_8 => ?_)
      have hf := gz_gl eh_8 hf
      refine gz_aload_n (pc := 173) dX9_readsGoose_173 rfl rfl ?_
      refine gz_gk hf (fun c_9 hf => ?_)
      refine gz_gb hf (fun r_10 er_10 hf => ?_)
      refine gz_getR (pc := 174) dX9_readsGoose_174 fl_RX9_47 rfl (gz_shs c_9) er_10 ?_
      refine gz_iconst (v := (3 : Int32)) (pc := 177) dX9_readsGoose_177 rfl ?_
      refine gz_aload_n (pc := 178) dX9_readsGoose_178 rfl rfl ?_
      refine gz_getI (pc := 179) dX9_readsGoose_179 fl_RX9_139 rfl (gz_shs c_9) ?_
      refine gz_imul (pc := 182) dX9_readsGoose_182 ?_
      refine gz_iconst (v := (1 : Int32)) (pc := 183) dX9_readsGoose_183 rfl ?_
      refine gz_iadd (pc := 184) dX9_readsGoose_184 ?_
      refine gz_iload_n (pc := 185) dX9_readsGoose_185 rfl rfl ?_
      refine gz_gk hf (fun c_11 hf => ?_)
      refine gz_iast (pc := 186) dX9_readsGoose_186 c_11 ?_
      refine gz_nmH (fun h_12 eh_12 => ?_)
      have hf := gz_gl eh_12 hf
      refine gz_aload_n (pc := 187) dX9_readsGoose_187 rfl rfl ?_
      refine gz_gk hf (fun c_13 hf => ?_)
      refine gz_gb hf (fun r_14 er_14 hf => ?_)
      refine gz_getR (pc := 188) dX9_readsGoose_188 fl_RX9_47 rfl (gz_shs c_13) er_14 ?_
      refine gz_iconst (v := (3 : Int32)) (pc := 191) dX9_readsGoose_191 rfl ?_
      refine gz_aload_n (pc := 192) dX9_readsGoose_192 rfl rfl ?_
      refine gz_getI (pc := 193) dX9_readsGoose_193 fl_RX9_139 rfl (gz_shs c_13) ?_
      refine gz_imul (pc := 196) dX9_readsGoose_196 ?_
      refine gz_iconst (v := (2 : Int32)) (pc := 197) dX9_readsGoose_197 rfl ?_
      refine gz_iadd (pc := 198) dX9_readsGoose_198 ?_
      refine gz_iload_n (pc := 199) dX9_readsGoose_199 rfl rfl ?_
      refine gz_gk hf (fun c_15 hf => ?_)
      refine gz_iast (pc := 200) dX9_readsGoose_200 c_15 ?_
      refine gz_nmH (fun h_16 eh_16 => ?_)
      have hf := gz_gl eh_16 hf
      refine gz_aload_n (pc := 201) dX9_readsGoose_201 rfl rfl ?_
      refine gz_gk hf (fun c_17 hf => ?_)
      refine gz_gb hf (fun r_18 er_18 hf => ?_)
      refine gz_getR (pc := 202) dX9_readsGoose_202 fl_RX9_50 rfl (gz_shs c_17) er_18 ?_
      refine gz_aload_n (pc := 205) dX9_readsGoose_205 rfl rfl ?_
      refine gz_getI (pc := 206) dX9_readsGoose_206 fl_RX9_139 rfl (gz_shs c_17) ?_
      refine gz_iload (pc := 209) dX9_readsGoose_209 rfl ?_
      refine gz_gk hf (fun c_19 hf => ?_)
      refine gz_iast (pc := 211) dX9_readsGoose_211 c_19 ?_
      refine gz_nmH (fun h_20 eh_20 => ?_)
      have hf := gz_gl eh_20 hf
      refine gz_aload_n (pc := 212) dX9_readsGoose_212 rfl rfl ?_
      refine gz_dup (pc := 213) dX9_readsGoose_213 rfl ?_
      refine gz_gk hf (fun c_21 hf => ?_)
      refine gz_getI (pc := 214) dX9_readsGoose_214 fl_RX9_139 rfl (gz_shs c_21) ?_
      refine gz_iconst (v := (1 : Int32)) (pc := 217) dX9_readsGoose_217 rfl ?_
      refine gz_iadd (pc := 218) dX9_readsGoose_218 ?_
      refine gz_putI (pc := 219) dX9_readsGoose_219 fw_X9_readsGoose_139 rfl rfl rfl (gz_shs c_21) ?_
      refine gz_nmH (fun h_22 eh_22 => ?_)
      have hf := gz_gl eh_22 hf
      refine gz_iconst (v := (1 : Int32)) (pc := 222) dX9_readsGoose_222 rfl ?_
      exact gz_irt (pc := 223) dX9_readsGoose_223 rfl rfl hf
    · have hf := gz_gF hf c_4
      refine gz_aload_n (pc := 83) dX9_readsGoose_83 rfl rfl ?_
      refine gz_gk hf (fun c_25 hf => ?_)
      refine gz_cVI (av := []) (st := []) (pc := 84) dX9_readsGoose_84 kl_RX9_115 rfl (gz_shs c_25) rfl rfl (Nat.le_of_ble_eq_true rfl) (by show d + 1 + 0 + 1 ≤ d + 2; omega) (sX9_here (d := d + 1) (gz_gc hf)) (fun y_24 h_23 hf => ?_)
      refine gz_bipush (v := (48 : Int32)) (pc := 87) dX9_readsGoose_87 rfl ?_
      refine gz_isub (pc := 89) dX9_readsGoose_89 ?_
      refine gz_istore (lv := [.ref a0, .int x1, .int x2, .int x3, .int x4, .int x5, .int (y_24 - (48 : Int32))]) (pc := 90) dX9_readsGoose_90 (by decide) rfl ?_
      refine gz_iload (pc := 92) dX9_readsGoose_92 rfl ?_
      refine gz_aload_n (pc := 94) dX9_readsGoose_94 rfl rfl ?_
      refine gz_gk hf (fun c_26 hf => ?_)
      refine gz_getI (pc := 95) dX9_readsGoose_95 fl_RX9_130 rfl (gz_shs c_26) ?_
      refine gz_icmp_ge (tgt := 117) (pc := 98) dX9_readsGoose_98 rfl (fun c_27 => ?_) (fun c_27 => ?_)
      · have hf := gz_gT hf c_27
        refine gz_iconst (v := (0 : Int32)) (pc := 117) dX9_readsGoose_117 rfl ?_
        exact gz_irt (pc := 118) dX9_readsGoose_118 rfl rfl hf
      · have hf := gz_gF hf c_27
        refine gz_iload (pc := 101) dX9_readsGoose_101 rfl ?_
        refine gz_iload (pc := 103) dX9_readsGoose_103 rfl ?_
        refine gz_cSI (av := [.int x5, .int (y_24 - (48 : Int32))]) (st := []) (pc := 105) dX9_readsGoose_105 kl_RX9_142 rfl rfl (Nat.le_of_ble_eq_true rfl) (by show d + 1 + 0 + 1 ≤ d + 2; omega) (sX9_has (d := d + 1) (gz_gc hf)) (fun y_29 h_28 hf => ?_)
        refine gz_if_ne (tgt := 117) (pc := 108) dX9_readsGoose_108 rfl (fun c_30 => ?_) (fun c_30 => ?_)
        · have hf := gz_gF hf c_30
          refine gz_iconst (v := (0 : Int32)) (pc := 117) dX9_readsGoose_117 rfl ?_
          exact gz_irt (pc := 118) dX9_readsGoose_118 rfl rfl hf
        · have hf := gz_gT hf c_30
          refine gz_iload (pc := 111) dX9_readsGoose_111 rfl ?_
          refine gz_iload_n (pc := 113) dX9_readsGoose_113 rfl rfl ?_
          refine gz_icmp_ne (tgt := 119) (pc := 114) dX9_readsGoose_114 rfl (fun c_31 => ?_) (fun c_31 => ?_)
          · have hf := gz_gF hf c_31
            refine gz_iload (pc := 119) dX9_readsGoose_119 rfl ?_
            refine gz_iconst (v := (1 : Int32)) (pc := 121) dX9_readsGoose_121 rfl ?_
            refine gz_iload (pc := 122) dX9_readsGoose_122 rfl ?_
            refine gz_ishl (pc := 124) dX9_readsGoose_124 ?_
            refine gz_ior (pc := 125) dX9_readsGoose_125 ?_
            refine gz_nmI (fun y_32 ey_32 => ?_)
            have hf := gz_gl ey_32 hf
            refine gz_istore (lv := [.ref a0, .int x1, .int x2, .int x3, .int x4, .int y_32, .int (y_24 - (48 : Int32))]) (pc := 126) dX9_readsGoose_126 (by decide) rfl ?_
            refine gz_aload_n (pc := 128) dX9_readsGoose_128 rfl rfl ?_
            refine gz_gk hf (fun c_33 hf => ?_)
            refine gz_gb hf (fun r_34 er_34 hf => ?_)
            refine gz_getR (pc := 129) dX9_readsGoose_129 fl_RX9_53 rfl (gz_shs c_33) er_34 ?_
            refine gz_bipush (v := (8 : Int32)) (pc := 132) dX9_readsGoose_132 rfl ?_
            refine gz_aload_n (pc := 134) dX9_readsGoose_134 rfl rfl ?_
            refine gz_getI (pc := 135) dX9_readsGoose_135 fl_RX9_139 rfl (gz_shs c_33) ?_
            refine gz_imul (pc := 138) dX9_readsGoose_138 ?_
            refine gz_iload (pc := 139) dX9_readsGoose_139 rfl ?_
            refine gz_iadd (pc := 141) dX9_readsGoose_141 ?_
            refine gz_iload (pc := 142) dX9_readsGoose_142 rfl ?_
            refine gz_gk hf (fun c_35 hf => ?_)
            refine gz_iast (pc := 144) dX9_readsGoose_144 c_35 ?_
            refine gz_nmH (fun h_36 eh_36 => ?_)
            have hf := gz_gl eh_36 hf
            refine gz_iinc (v := x4 + 1) (lv := [.ref a0, .int x1, .int x2, .int x3, .int (x4 + 1), .int y_32, .int (y_24 - (48 : Int32))]) (pc := 145) dX9_readsGoose_145 rfl rfl (by decide) rfl ?_
            refine gz_aload_n (pc := 148) dX9_readsGoose_148 rfl rfl ?_
            refine gz_dup (pc := 149) dX9_readsGoose_149 rfl ?_
            refine gz_gk hf (fun c_37 hf => ?_)
            refine gz_getI (pc := 150) dX9_readsGoose_150 fl_RX9_109 rfl (gz_shs c_37) ?_
            refine gz_iconst (v := (1 : Int32)) (pc := 153) dX9_readsGoose_153 rfl ?_
            refine gz_iadd (pc := 154) dX9_readsGoose_154 ?_
            refine gz_putI (pc := 155) dX9_readsGoose_155 fw_X9_readsGoose_109 rfl rfl rfl (gz_shs c_37) ?_
            refine gz_nmH (fun h_38 eh_38 => ?_)
            have hf := gz_gl eh_38 hf
            refine gz_goto (tgt := 76) (pc := 158) dX9_readsGoose_158 rfl ?_
            refine gz_fg (lv := [.ref a0, .int x1, .int x2, .int x3, .int (x4 + 1), .int y_32, .retAddr 0]) ⟨Or.inr rfl, ⟨Or.inr rfl, ⟨Or.inr rfl, ⟨Or.inr rfl, ⟨Or.inr rfl, ⟨Or.inr rfl, ⟨Or.inl rfl, trivial⟩⟩⟩⟩⟩⟩⟩ ?_
            exact ih a0 x1 x2 x3 (x4 + 1) y_32 h_38 hf
          · have hf := gz_gT hf c_31
            refine gz_iconst (v := (0 : Int32)) (pc := 117) dX9_readsGoose_117 rfl ?_
            exact gz_irt (pc := 118) dX9_readsGoose_118 rfl rfl hf
def fX9_readsGoose_61  (a0 : Nat) (x1 : Int32) (x2 : Int32) (w0 : Int32) (h : gz_H) : Option (Int32 × gz_H) :=
    if w0 = (-9 : Int32) then (
     some ((0 : Int32), h)
    ) else (
     fX9_readsGoose_76 gz_fu a0 x1 x2 w0 (0 : Int32) (0 : Int32) h
    )
set_option maxRecDepth 100000 in
set_option maxHeartbeats 1000000 in
theorem sX9_readsGoose_61 {G : gz_G} {d l0 s0 : Nat} {Q : Int32 → gz_H → Prop} (a0 : Nat) (x1 : Int32) (x2 : Int32) (w0 : Int32) (h : gz_H) (hf : gz_g (fX9_readsGoose_61  a0 x1 x2 w0 h) Q) : gz_Ok G mX9_readsGoose (d + 2, l0, s0, 0, 0) 61 [.ref a0, .int x1, .int x2, .retAddr 0, .retAddr 0, .retAddr 0, .retAddr 0] [.int w0] h (gz_qi Q) := by
  unfold fX9_readsGoose_61 at hf
  refine gz_istore_n (lv := [.ref a0, .int x1, .int x2, .int w0, .retAddr 0, .retAddr 0, .retAddr 0]) (pc := 61) dX9_readsGoose_61 rfl (by decide) rfl ?_
  refine gz_iload_n (pc := 62) dX9_readsGoose_62 rfl rfl ?_
  refine gz_bipush (v := (-9 : Int32)) (pc := 63) dX9_readsGoose_63 rfl ?_
  refine gz_icmp_ne (tgt := 70) (pc := 65) dX9_readsGoose_65 rfl (fun c_1 => ?_) (fun c_1 => ?_)
  · have hf := gz_gF hf c_1
    refine gz_iconst (v := (0 : Int32)) (pc := 70) dX9_readsGoose_70 rfl ?_
    refine gz_istore (lv := [.ref a0, .int x1, .int x2, .int w0, .int (0 : Int32), .retAddr 0, .retAddr 0]) (pc := 71) dX9_readsGoose_71 (by decide) rfl ?_
    refine gz_iconst (v := (0 : Int32)) (pc := 73) dX9_readsGoose_73 rfl ?_
    refine gz_istore (lv := [.ref a0, .int x1, .int x2, .int w0, .int (0 : Int32), .int (0 : Int32), .retAddr 0]) (pc := 74) dX9_readsGoose_74 (by decide) rfl ?_
    exact sX9_readsGoose_76 gz_fu a0 x1 x2 w0 (0 : Int32) (0 : Int32) h hf
  · have hf := gz_gT hf c_1
    refine gz_iconst (v := (0 : Int32)) (pc := 68) dX9_readsGoose_68 rfl ?_
    exact gz_irt (pc := 69) dX9_readsGoose_69 rfl rfl hf
def fX9_readsGoose_0  (a0 : Nat) (h : gz_H) : Option (Int32 × gz_H) :=
    gz_ck (gz_sh h a0 9 29) <|
    gz_b2 (fX9_here a0 h) fun y_2 h_1 =>
    gz_b2 (fX9_kindOfLetter y_2 h_1) fun y_5 h_4 =>
    if y_5 = (-9 : Int32) then (
     some ((0 : Int32), h_4)
    ) else (
     gz_ck (gz_sh h_4 a0 9 29) <|
     if (h_4.2.1 a0 24) = (6 : Int32) then (
      some ((0 : Int32), h_4)
     ) else (
      gz_lt (uI h_4 a0 17 ((h_4.2.1 a0 17) + (1 : Int32))) fun h_9 =>
      gz_ck (gz_sh h_9 a0 9 29) <|
      gz_b2 (fX9_figure a0 (1 : Int32) (8 : Int32) h_9) fun y_11 h_10 =>
      if y_11 = (-9 : Int32) then (
       fX9_readsGoose_61 a0 y_5 y_11 (-9 : Int32) h_10
      ) else (
       gz_ck (gz_sh h_10 a0 9 29) <|
       gz_b2 (fX9_figure a0 (0 : Int32) (9 : Int32) h_10) fun y_15 h_14 =>
       fX9_readsGoose_61 a0 y_5 y_11 y_15 h_14
      )
     )
    )
set_option maxRecDepth 100000 in
set_option maxHeartbeats 1000000 in
theorem sX9_readsGoose_0 {G : gz_G} {d l0 s0 : Nat} {Q : Int32 → gz_H → Prop} (a0 : Nat) (h : gz_H) (hf : gz_g (fX9_readsGoose_0  a0 h) Q) : gz_Ok G mX9_readsGoose (d + 2, l0, s0, 0, 0) 0 [.ref a0, .retAddr 0, .retAddr 0, .retAddr 0, .retAddr 0, .retAddr 0, .retAddr 0] [] h (gz_qi Q) := by
  unfold fX9_readsGoose_0 at hf
  refine gz_aload_n (pc := 0) dX9_readsGoose_0 rfl rfl ?_
  refine gz_gk hf (fun c_3 hf => ?_)
  refine gz_cVI (av := []) (st := []) (pc := 1) dX9_readsGoose_1 kl_RX9_115 rfl (gz_shs c_3) rfl rfl (Nat.le_of_ble_eq_true rfl) (by show d + 1 + 0 + 1 ≤ d + 2; omega) (sX9_here (d := d + 1) (gz_gc hf)) (fun y_2 h_1 hf => ?_)
  refine gz_cSI (av := [.int y_2]) (st := []) (pc := 4) dX9_readsGoose_4 kl_RX9_136 rfl rfl (Nat.le_of_ble_eq_true rfl) (by show d + 1 + 0 + 1 ≤ d + 2; omega) (sX9_kindOfLetter (d := d + 1) (gz_gc hf)) (fun y_5 h_4 hf => ?_)
  refine gz_istore_n (lv := [.ref a0, .int y_5, .retAddr 0, .retAddr 0, .retAddr 0, .retAddr 0, .retAddr 0]) (pc := 7) dX9_readsGoose_7 rfl (by decide) rfl ?_
  refine gz_iload_n (pc := 8) dX9_readsGoose_8 rfl rfl ?_
  refine gz_bipush (v := (-9 : Int32)) (pc := 9) dX9_readsGoose_9 rfl ?_
  refine gz_icmp_eq (tgt := 23) (pc := 11) dX9_readsGoose_11 rfl (fun c_6 => ?_) (fun c_6 => ?_)
  · have hf := gz_gT hf c_6
    refine gz_iconst (v := (0 : Int32)) (pc := 23) dX9_readsGoose_23 rfl ?_
    exact gz_irt (pc := 24) dX9_readsGoose_24 rfl rfl hf
  · have hf := gz_gF hf c_6
    refine gz_aload_n (pc := 14) dX9_readsGoose_14 rfl rfl ?_
    refine gz_gk hf (fun c_7 hf => ?_)
    refine gz_getI (pc := 15) dX9_readsGoose_15 fl_RX9_139 rfl (gz_shs c_7) ?_
    refine gz_bipush (v := (6 : Int32)) (pc := 18) dX9_readsGoose_18 rfl ?_
    refine gz_icmp_ne (tgt := 25) (pc := 20) dX9_readsGoose_20 rfl (fun c_8 => ?_) (fun c_8 => ?_)
    · have hf := gz_gF hf c_8
      refine gz_aload_n (pc := 25) dX9_readsGoose_25 rfl rfl ?_
      refine gz_dup (pc := 26) dX9_readsGoose_26 rfl ?_
      refine gz_getI (pc := 27) dX9_readsGoose_27 fl_RX9_109 rfl (gz_shs c_7) ?_
      refine gz_iconst (v := (1 : Int32)) (pc := 30) dX9_readsGoose_30 rfl ?_
      refine gz_iadd (pc := 31) dX9_readsGoose_31 ?_
      refine gz_putI (pc := 32) dX9_readsGoose_32 fw_X9_readsGoose_109 rfl rfl rfl (gz_shs c_7) ?_
      refine gz_nmH (fun h_9 eh_9 => ?_)
      have hf := gz_gl eh_9 hf
      refine gz_aload_n (pc := 35) dX9_readsGoose_35 rfl rfl ?_
      refine gz_iconst (v := (1 : Int32)) (pc := 36) dX9_readsGoose_36 rfl ?_
      refine gz_bipush (v := (8 : Int32)) (pc := 37) dX9_readsGoose_37 rfl ?_
      refine gz_gk hf (fun c_12 hf => ?_)
      refine gz_cVI (av := [.int (1 : Int32), .int (8 : Int32)]) (st := []) (pc := 39) dX9_readsGoose_39 kl_RX9_133 rfl (gz_shs c_12) rfl rfl (Nat.le_of_ble_eq_true rfl) (by show d + 0 + 1 + 1 ≤ d + 2; omega) (sX9_figure (d := d + 0) (gz_gc hf)) (fun y_11 h_10 hf => ?_)
      refine gz_istore_n (lv := [.ref a0, .int y_5, .int y_11, .retAddr 0, .retAddr 0, .retAddr 0, .retAddr 0]) (pc := 42) dX9_readsGoose_42 rfl (by decide) rfl ?_
      refine gz_iload_n (pc := 43) dX9_readsGoose_43 rfl rfl ?_
      refine gz_bipush (v := (-9 : Int32)) (pc := 44) dX9_readsGoose_44 rfl ?_
      refine gz_icmp_ne (tgt := 54) (pc := 46) dX9_readsGoose_46 rfl (fun c_13 => ?_) (fun c_13 => ?_)
      · have hf := gz_gF hf c_13
        refine gz_aload_n (pc := 54) dX9_readsGoose_54 rfl rfl ?_
        refine gz_iconst (v := (0 : Int32)) (pc := 55) dX9_readsGoose_55 rfl ?_
        refine gz_bipush (v := (9 : Int32)) (pc := 56) dX9_readsGoose_56 rfl ?_
        refine gz_gk hf (fun c_16 hf => ?_)
        refine gz_cVI (av := [.int (0 : Int32), .int (9 : Int32)]) (st := []) (pc := 58) dX9_readsGoose_58 kl_RX9_133 rfl (gz_shs c_16) rfl rfl (Nat.le_of_ble_eq_true rfl) (by show d + 0 + 1 + 1 ≤ d + 2; omega) (sX9_figure (d := d + 0) (gz_gc hf)) (fun y_15 h_14 hf => ?_)
        exact sX9_readsGoose_61 a0 y_5 y_11 y_15 h_14 hf
      · have hf := gz_gT hf c_13
        refine gz_bipush (v := (-9 : Int32)) (pc := 49) dX9_readsGoose_49 rfl ?_
        refine gz_goto (tgt := 61) (pc := 51) dX9_readsGoose_51 rfl ?_
        exact sX9_readsGoose_61 a0 y_5 y_11 (-9 : Int32) h_10 hf
    · have hf := gz_gT hf c_8
      refine gz_iconst (v := (0 : Int32)) (pc := 23) dX9_readsGoose_23 rfl ?_
      exact gz_irt (pc := 24) dX9_readsGoose_24 rfl rfl hf
def fX9_readsGoose (a0 : Nat) (h : gz_H) : Option (Int32 × gz_H) := fX9_readsGoose_0 a0 h
theorem sX9_readsGoose {G : gz_G} {d : Nat} {a0 : Nat} {h : gz_H} {Q : Int32 → gz_H → Prop} (hf : gz_g (fX9_readsGoose a0 h) Q) : gz_Cl G mX9_readsGoose (d + 2) 0 0 [.ref a0] h (gz_qi Q) := gz_cl_of (lo := [.ref a0, .retAddr 0, .retAddr 0, .retAddr 0, .retAddr 0, .retAddr 0, .retAddr 0]) (by decide) rfl rfl (Nat.le_of_ble_eq_true rfl) (sX9_readsGoose_0 a0 h hf)
theorem dX9_faultOf_0 : decode cX9_faultOf 0 = .ok (.aload_n 0, 1) := by decide +kernel
theorem dX9_faultOf_1 : decode cX9_faultOf 1 = .ok (.bipush 80, 2) := by decide +kernel
theorem dX9_faultOf_3 : decode cX9_faultOf 3 = .ok (.iload_n 1, 1) := by decide +kernel
theorem dX9_faultOf_4 : decode cX9_faultOf 4 = .ok (.imul, 1) := by decide +kernel
theorem dX9_faultOf_5 : decode cX9_faultOf 5 = .ok (.putfield 106, 3) := by decide +kernel
theorem dX9_faultOf_8 : decode cX9_faultOf 8 = .ok (.aload_n 0, 1) := by decide +kernel
theorem dX9_faultOf_9 : decode cX9_faultOf 9 = .ok (.iconst 0, 1) := by decide +kernel
theorem dX9_faultOf_10 : decode cX9_faultOf 10 = .ok (.putfield 109, 3) := by decide +kernel
theorem dX9_faultOf_13 : decode cX9_faultOf 13 = .ok (.aload_n 0, 1) := by decide +kernel
theorem dX9_faultOf_14 : decode cX9_faultOf 14 = .ok (.aload_n 0, 1) := by decide +kernel
theorem dX9_faultOf_15 : decode cX9_faultOf 15 = .ok (.getfield 31, 3) := by decide +kernel
theorem dX9_faultOf_18 : decode cX9_faultOf 18 = .ok (.iload_n 1, 1) := by decide +kernel
theorem dX9_faultOf_19 : decode cX9_faultOf 19 = .ok (.iaload, 1) := by decide +kernel
theorem dX9_faultOf_20 : decode cX9_faultOf 20 = .ok (.putfield 112, 3) := by decide +kernel
theorem dX9_faultOf_23 : decode cX9_faultOf 23 = .ok (.aload_n 0, 1) := by decide +kernel
theorem dX9_faultOf_24 : decode cX9_faultOf 24 = .ok (.iconst 0, 1) := by decide +kernel
theorem dX9_faultOf_25 : decode cX9_faultOf 25 = .ok (.putfield 130, 3) := by decide +kernel
theorem dX9_faultOf_28 : decode cX9_faultOf 28 = .ok (.aload_n 0, 1) := by decide +kernel
theorem dX9_faultOf_29 : decode cX9_faultOf 29 = .ok (.iconst 0, 1) := by decide +kernel
theorem dX9_faultOf_30 : decode cX9_faultOf 30 = .ok (.putfield 139, 3) := by decide +kernel
theorem dX9_faultOf_33 : decode cX9_faultOf 33 = .ok (.aload_n 0, 1) := by decide +kernel
theorem dX9_faultOf_34 : decode cX9_faultOf 34 = .ok (.invokevirtual 146, 3) := by decide +kernel
theorem dX9_faultOf_37 : decode cX9_faultOf 37 = .ok (.istore_n 2, 1) := by decide +kernel
theorem dX9_faultOf_38 : decode cX9_faultOf 38 = .ok (.iload_n 2, 1) := by decide +kernel
theorem dX9_faultOf_39 : decode cX9_faultOf 39 = .ok (.ifCond .eq 7, 3) := by decide +kernel
theorem dX9_faultOf_42 : decode cX9_faultOf 42 = .ok (.aload_n 0, 1) := by decide +kernel
theorem dX9_faultOf_43 : decode cX9_faultOf 43 = .ok (.invokevirtual 123, 3) := by decide +kernel
theorem dX9_faultOf_46 : decode cX9_faultOf 46 = .ok (.iload_n 2, 1) := by decide +kernel
theorem dX9_faultOf_47 : decode cX9_faultOf 47 = .ok (.ifCond .eq 30, 3) := by decide +kernel
theorem dX9_faultOf_50 : decode cX9_faultOf 50 = .ok (.aload_n 0, 1) := by decide +kernel
theorem dX9_faultOf_51 : decode cX9_faultOf 51 = .ok (.getfield 109, 3) := by decide +kernel
theorem dX9_faultOf_54 : decode cX9_faultOf 54 = .ok (.aload_n 0, 1) := by decide +kernel
theorem dX9_faultOf_55 : decode cX9_faultOf 55 = .ok (.getfield 112, 3) := by decide +kernel
theorem dX9_faultOf_58 : decode cX9_faultOf 58 = .ok (.if_icmp .ge 19, 3) := by decide +kernel
theorem dX9_faultOf_61 : decode cX9_faultOf 61 = .ok (.aload_n 0, 1) := by decide +kernel
theorem dX9_faultOf_62 : decode cX9_faultOf 62 = .ok (.invokevirtual 149, 3) := by decide +kernel
theorem dX9_faultOf_65 : decode cX9_faultOf 65 = .ok (.istore_n 2, 1) := by decide +kernel
theorem dX9_faultOf_66 : decode cX9_faultOf 66 = .ok (.iload_n 2, 1) := by decide +kernel
theorem dX9_faultOf_67 : decode cX9_faultOf 67 = .ok (.ifCond .eq (-21), 3) := by decide +kernel
theorem dX9_faultOf_70 : decode cX9_faultOf 70 = .ok (.aload_n 0, 1) := by decide +kernel
theorem dX9_faultOf_71 : decode cX9_faultOf 71 = .ok (.invokevirtual 123, 3) := by decide +kernel
theorem dX9_faultOf_74 : decode cX9_faultOf 74 = .ok (.goto (-28), 3) := by decide +kernel
theorem dX9_faultOf_77 : decode cX9_faultOf 77 = .ok (.iload_n 2, 1) := by decide +kernel
theorem dX9_faultOf_78 : decode cX9_faultOf 78 = .ok (.ifCond .eq 15, 3) := by decide +kernel
theorem dX9_faultOf_81 : decode cX9_faultOf 81 = .ok (.aload_n 0, 1) := by decide +kernel
theorem dX9_faultOf_82 : decode cX9_faultOf 82 = .ok (.getfield 139, 3) := by decide +kernel
theorem dX9_faultOf_85 : decode cX9_faultOf 85 = .ok (.ifCond .le 8, 3) := by decide +kernel
theorem dX9_faultOf_88 : decode cX9_faultOf 88 = .ok (.bipush (-9), 2) := by decide +kernel
theorem dX9_faultOf_90 : decode cX9_faultOf 90 = .ok (.goto 7, 3) := by decide +kernel
theorem dX9_faultOf_93 : decode cX9_faultOf 93 = .ok (.aload_n 0, 1) := by decide +kernel
theorem dX9_faultOf_94 : decode cX9_faultOf 94 = .ok (.getfield 109, 3) := by decide +kernel
theorem dX9_faultOf_97 : decode cX9_faultOf 97 = .ok (.ireturn, 1) := by decide +kernel
def fX9_faultOf_77  (a0 : Nat) (x2 : Int32) (h : gz_H) : Option (Int32 × gz_H) :=
    if x2 = 0 then (
     gz_ck (gz_sh h a0 9 29) <|
     some (h.2.1 a0 17, h)
    ) else (
     gz_ck (gz_sh h a0 9 29) <|
     if (h.2.1 a0 24) ≤ 0 then (
      some (h.2.1 a0 17, h)
     ) else (
      some ((-9 : Int32), h)
     )
    )
set_option maxRecDepth 100000 in
set_option maxHeartbeats 1000000 in
theorem sX9_faultOf_77 {G : gz_G} {d l0 s0 : Nat} {Q : Int32 → gz_H → Prop} (a0 : Nat) (x2 : Int32) (h : gz_H) (hf : gz_g (fX9_faultOf_77  a0 x2 h) Q) : gz_Ok G mX9_faultOf (d + 3, l0, s0, 0, 0) 77 [.ref a0, .retAddr 0, .int x2] [] h (gz_qi Q) := by
  unfold fX9_faultOf_77 at hf
  refine gz_iload_n (pc := 77) dX9_faultOf_77 rfl rfl ?_
  refine gz_if_eq (tgt := 93) (pc := 78) dX9_faultOf_78 rfl (fun c_1 => ?_) (fun c_1 => ?_)
  · have hf := gz_gT hf c_1
    refine gz_aload_n (pc := 93) dX9_faultOf_93 rfl rfl ?_
    refine gz_gk hf (fun c_2 hf => ?_)
    refine gz_getI (pc := 94) dX9_faultOf_94 fl_RX9_109 rfl (gz_shs c_2) ?_
    exact gz_irt (pc := 97) dX9_faultOf_97 rfl rfl hf
  · have hf := gz_gF hf c_1
    refine gz_aload_n (pc := 81) dX9_faultOf_81 rfl rfl ?_
    refine gz_gk hf (fun c_3 hf => ?_)
    refine gz_getI (pc := 82) dX9_faultOf_82 fl_RX9_139 rfl (gz_shs c_3) ?_
    refine gz_if_le (tgt := 93) (pc := 85) dX9_faultOf_85 rfl (fun c_4 => ?_) (fun c_4 => ?_)
    · have hf := gz_gT hf c_4
      refine gz_aload_n (pc := 93) dX9_faultOf_93 rfl rfl ?_
      refine gz_getI (pc := 94) dX9_faultOf_94 fl_RX9_109 rfl (gz_shs c_3) ?_
      exact gz_irt (pc := 97) dX9_faultOf_97 rfl rfl hf
    · have hf := gz_gF hf c_4
      refine gz_bipush (v := (-9 : Int32)) (pc := 88) dX9_faultOf_88 rfl ?_
      refine gz_goto (tgt := 97) (pc := 90) dX9_faultOf_90 rfl ?_
      exact gz_irt (pc := 97) dX9_faultOf_97 rfl rfl hf
def fX9_faultOf_46  : Nat → Nat → Int32 → gz_H → Option (Int32 × gz_H)
  | 0, _, _, _ => none
  | n + 1, a0, x2, h =>
    if x2 = 0 then (
     fX9_faultOf_77 a0 x2 h
    ) else (
     gz_ck (gz_sh h a0 9 29) <|
     if (h.2.1 a0 18) ≤ (h.2.1 a0 17) then (
      fX9_faultOf_77 a0 x2 h
     ) else (
      gz_b2 (fX9_readsGoose a0 h) fun y_5 h_4 =>
      if y_5 = 0 then (
       fX9_faultOf_46 n a0 y_5 h_4
      ) else (
       gz_ck (gz_sh h_4 a0 9 29) <|
       gz_b2 (fX9_skip a0 h_4) fun _ h_7 =>
       fX9_faultOf_46 n a0 y_5 h_7
      )
     )
    )
set_option maxRecDepth 100000 in
set_option maxHeartbeats 1000000 in
theorem sX9_faultOf_46 {G : gz_G} {d l0 s0 : Nat} {Q : Int32 → gz_H → Prop} : ∀ (n : Nat) (a0 : Nat) (x2 : Int32) (h : gz_H), gz_g (fX9_faultOf_46  n a0 x2 h) Q → gz_Ok G mX9_faultOf (d + 3, l0, s0, 0, 0) 46 [.ref a0, .retAddr 0, .int x2] [] h (gz_qi Q) := by
  intro n
  induction n with
  | zero => intro a0 x2 h hf; exact False.elim hf
  | succ n ih =>
    intro a0 x2 h hf
    rw [fX9_faultOf_46] at hf
    refine gz_iload_n (pc := 46) dX9_faultOf_46 rfl rfl ?_
    refine gz_if_eq (tgt := 77) (pc := 47) dX9_faultOf_47 rfl (fun c_1 => ?_) (fun c_1 => ?_)
    · have hf := gz_gT hf c_1
      exact sX9_faultOf_77 a0 x2 h hf
    · have hf := gz_gF hf c_1
      refine gz_aload_n (pc := 50) dX9_faultOf_50 rfl rfl ?_
      refine gz_gk hf (fun c_2 hf => ?_)
      refine gz_getI (pc := 51) dX9_faultOf_51 fl_RX9_109 rfl (gz_shs c_2) ?_
      refine gz_aload_n (pc := 54) dX9_faultOf_54 rfl rfl ?_
      refine gz_getI (pc := 55) dX9_faultOf_55 fl_RX9_112 rfl (gz_shs c_2) ?_
      refine gz_icmp_ge (tgt := 77) (pc := 58) dX9_faultOf_58 rfl (fun c_3 => ?_) (fun c_3 => ?_)
      · have hf := gz_gT hf c_3
        exact sX9_faultOf_77 a0 x2 h hf
      · have hf := gz_gF hf c_3
        refine gz_aload_n (pc := 61) dX9_faultOf_61 rfl rfl ?_
        refine gz_cVI (av := []) (st := []) (pc := 62) dX9_faultOf_62 kl_RX9_149 rfl (gz_shs c_2) rfl rfl (Nat.le_of_ble_eq_true rfl) (by show d + 0 + 2 + 1 ≤ d + 3; omega) (sX9_readsGoose (d := d + 0) (gz_gc hf)) (fun y_5 h_4 hf => ?_)
        refine gz_istore_n (lv := [.ref a0, .retAddr 0, .int y_5]) (pc := 65) dX9_faultOf_65 rfl (by decide) rfl ?_
        refine gz_iload_n (pc := 66) dX9_faultOf_66 rfl rfl ?_
        refine gz_if_eq (tgt := 46) (pc := 67) dX9_faultOf_67 rfl (fun c_6 => ?_) (fun c_6 => ?_)
        · have hf := gz_gT hf c_6
          exact ih a0 y_5 h_4 hf
        · have hf := gz_gF hf c_6
          refine gz_aload_n (pc := 70) dX9_faultOf_70 rfl rfl ?_
          refine gz_gk hf (fun c_9 hf => ?_)
          refine gz_cVV (av := []) (st := []) (pc := 71) dX9_faultOf_71 kl_RX9_123 rfl (gz_shs c_9) rfl rfl (Nat.le_of_ble_eq_true rfl) (by show d + 1 + 1 + 1 ≤ d + 3; omega) (sX9_skip (d := d + 1) (gz_gc hf)) (fun _ h_7 hf => ?_)
          refine gz_goto (tgt := 46) (pc := 74) dX9_faultOf_74 rfl ?_
          exact ih a0 y_5 h_7 hf
def fX9_faultOf_0  (a0 : Nat) (x1 : Int32) (h : gz_H) : Option (Int32 × gz_H) :=
    gz_ck (gz_sh h a0 9 29) <|
    gz_lt (uI h a0 16 ((80 : Int32) * x1)) fun h_2 =>
    gz_ck (gz_sh h_2 a0 9 29) <|
    gz_lt (uI h_2 a0 17 (0 : Int32)) fun h_4 =>
    gz_ck (gz_sh h_4 a0 9 29) <|
    gz_br (h_4.2.2.2 a0 9) fun r_6 =>
    gz_ck (gz_inb h_4 r_6 10 x1) <|
    gz_lt (uI h_4 a0 18 (h_4.2.1 r_6 x1.toNatClampNeg)) fun h_8 =>
    gz_ck (gz_sh h_8 a0 9 29) <|
    gz_lt (uI h_8 a0 20 (0 : Int32)) fun h_10 =>
    gz_ck (gz_sh h_10 a0 9 29) <|
    gz_lt (uI h_10 a0 24 (0 : Int32)) fun h_12 =>
    gz_ck (gz_sh h_12 a0 9 29) <|
    gz_b2 (fX9_readsFacts a0 h_12) fun y_14 h_13 =>
    if y_14 = 0 then (
     fX9_faultOf_46 gz_fu a0 y_14 h_13
    ) else (
     gz_ck (gz_sh h_13 a0 9 29) <|
     gz_b2 (fX9_skip a0 h_13) fun _ h_17 =>
     fX9_faultOf_46 gz_fu a0 y_14 h_17
    )
set_option maxRecDepth 100000 in
set_option maxHeartbeats 1000000 in
theorem sX9_faultOf_0 {G : gz_G} {d l0 s0 : Nat} {Q : Int32 → gz_H → Prop} (a0 : Nat) (x1 : Int32) (h : gz_H) (hf : gz_g (fX9_faultOf_0  a0 x1 h) Q) : gz_Ok G mX9_faultOf (d + 3, l0, s0, 0, 0) 0 [.ref a0, .int x1, .retAddr 0] [] h (gz_qi Q) := by
  unfold fX9_faultOf_0 at hf
  refine gz_aload_n (pc := 0) dX9_faultOf_0 rfl rfl ?_
  refine gz_bipush (v := (80 : Int32)) (pc := 1) dX9_faultOf_1 rfl ?_
  refine gz_iload_n (pc := 3) dX9_faultOf_3 rfl rfl ?_
  refine gz_imul (pc := 4) dX9_faultOf_4 ?_
  refine gz_gk hf (fun c_1 hf => ?_)
  refine gz_putI (pc := 5) dX9_faultOf_5 fw_X9_faultOf_106 rfl rfl rfl (gz_shs c_1) ?_
  refine gz_nmH (fun h_2 eh_2 => ?_)
  have hf := gz_gl eh_2 hf
  refine gz_aload_n (pc := 8) dX9_faultOf_8 rfl rfl ?_
  refine gz_iconst (v := (0 : Int32)) (pc := 9) dX9_faultOf_9 rfl ?_
  refine gz_gk hf (fun c_3 hf => ?_)
  refine gz_putI (pc := 10) dX9_faultOf_10 fw_X9_faultOf_109 rfl rfl rfl (gz_shs c_3) ?_
  refine gz_nmH (fun h_4 eh_4 => ?_)
  have hf := gz_gl eh_4 hf
  refine gz_aload_n (pc := 13) dX9_faultOf_13 rfl rfl ?_
  refine gz_aload_n (pc := 14) dX9_faultOf_14 rfl rfl ?_
  refine gz_gk hf (fun c_5 hf => ?_)
  refine gz_gb hf (fun r_6 er_6 hf => ?_)
  refine gz_getR (pc := 15) dX9_faultOf_15 fl_RX9_31 rfl (gz_shs c_5) er_6 ?_
  refine gz_iload_n (pc := 18) dX9_faultOf_18 rfl rfl ?_
  refine gz_gk hf (fun c_7 hf => ?_)
  refine gz_iald (pc := 19) dX9_faultOf_19 c_7 ?_
  refine gz_putI (pc := 20) dX9_faultOf_20 fw_X9_faultOf_112 rfl rfl rfl (gz_shs c_5) ?_
  refine gz_nmH (fun h_8 eh_8 => ?_)
  have hf := gz_gl eh_8 hf
  refine gz_aload_n (pc := 23) dX9_faultOf_23 rfl rfl ?_
  refine gz_iconst (v := (0 : Int32)) (pc := 24) dX9_faultOf_24 rfl ?_
  refine gz_gk hf (fun c_9 hf => ?_)
  refine gz_putI (pc := 25) dX9_faultOf_25 fw_X9_faultOf_130 rfl rfl rfl (gz_shs c_9) ?_
  refine gz_nmH (fun h_10 eh_10 => ?_)
  have hf := gz_gl eh_10 hf
  refine gz_aload_n (pc := 28) dX9_faultOf_28 rfl rfl ?_
  refine gz_iconst (v := (0 : Int32)) (pc := 29) dX9_faultOf_29 rfl ?_
  refine gz_gk hf (fun c_11 hf => ?_)
  refine gz_putI (pc := 30) dX9_faultOf_30 fw_X9_faultOf_139 rfl rfl rfl (gz_shs c_11) ?_
  refine gz_nmH (fun h_12 eh_12 => ?_)
  have hf := gz_gl eh_12 hf
  refine gz_aload_n (pc := 33) dX9_faultOf_33 rfl rfl ?_
  refine gz_gk hf (fun c_15 hf => ?_)
  refine gz_cVI (av := []) (st := []) (pc := 34) dX9_faultOf_34 kl_RX9_146 rfl (gz_shs c_15) rfl rfl (Nat.le_of_ble_eq_true rfl) (by show d + 0 + 2 + 1 ≤ d + 3; omega) (sX9_readsFacts (d := d + 0) (gz_gc hf)) (fun y_14 h_13 hf => ?_)
  refine gz_istore_n (lv := [.ref a0, .int x1, .int y_14]) (pc := 37) dX9_faultOf_37 rfl (by decide) rfl ?_
  refine gz_iload_n (pc := 38) dX9_faultOf_38 rfl rfl ?_
  refine gz_if_eq (tgt := 46) (pc := 39) dX9_faultOf_39 rfl (fun c_16 => ?_) (fun c_16 => ?_)
  · have hf := gz_gT hf c_16
    refine gz_fg (lv := [.ref a0, .retAddr 0, .int y_14]) ⟨Or.inr rfl, ⟨Or.inl rfl, ⟨Or.inr rfl, trivial⟩⟩⟩ ?_
    exact sX9_faultOf_46 gz_fu a0 y_14 h_13 hf
  · have hf := gz_gF hf c_16
    refine gz_aload_n (pc := 42) dX9_faultOf_42 rfl rfl ?_
    refine gz_gk hf (fun c_19 hf => ?_)
    refine gz_cVV (av := []) (st := []) (pc := 43) dX9_faultOf_43 kl_RX9_123 rfl (gz_shs c_19) rfl rfl (Nat.le_of_ble_eq_true rfl) (by show d + 1 + 1 + 1 ≤ d + 3; omega) (sX9_skip (d := d + 1) (gz_gc hf)) (fun _ h_17 hf => ?_)
    refine gz_fg (lv := [.ref a0, .retAddr 0, .int y_14]) ⟨Or.inr rfl, ⟨Or.inl rfl, ⟨Or.inr rfl, trivial⟩⟩⟩ ?_
    exact sX9_faultOf_46 gz_fu a0 y_14 h_17 hf
def fX9_faultOf (a0 : Nat) (x1 : Int32) (h : gz_H) : Option (Int32 × gz_H) := fX9_faultOf_0 a0 x1 h
theorem sX9_faultOf {G : gz_G} {d : Nat} {a0 : Nat} {x1 : Int32} {h : gz_H} {Q : Int32 → gz_H → Prop} (hf : gz_g (fX9_faultOf a0 x1 h) Q) : gz_Cl G mX9_faultOf (d + 3) 0 0 [.ref a0, .int x1] h (gz_qi Q) := gz_cl_of (lo := [.ref a0, .int x1, .retAddr 0]) (by decide) rfl rfl (Nat.le_of_ble_eq_true rfl) (sX9_faultOf_0 a0 x1 h hf)
theorem dX9_fault_0 : decode cX9_fault 0 = .ok (.iload_n 1, 1) := by decide +kernel
theorem dX9_fault_1 : decode cX9_fault 1 = .ok (.invokestatic 103, 3) := by decide +kernel
theorem dX9_fault_4 : decode cX9_fault 4 = .ok (.ifCond .ne 5, 3) := by decide +kernel
theorem dX9_fault_7 : decode cX9_fault 7 = .ok (.iconst (-1), 1) := by decide +kernel
theorem dX9_fault_8 : decode cX9_fault 8 = .ok (.ireturn, 1) := by decide +kernel
theorem dX9_fault_9 : decode cX9_fault 9 = .ok (.aload_n 0, 1) := by decide +kernel
theorem dX9_fault_10 : decode cX9_fault 10 = .ok (.getfield 31, 3) := by decide +kernel
theorem dX9_fault_13 : decode cX9_fault 13 = .ok (.iload_n 1, 1) := by decide +kernel
theorem dX9_fault_14 : decode cX9_fault 14 = .ok (.iaload, 1) := by decide +kernel
theorem dX9_fault_15 : decode cX9_fault 15 = .ok (.ifCond .ge 11, 3) := by decide +kernel
theorem dX9_fault_18 : decode cX9_fault 18 = .ok (.aload_n 0, 1) := by decide +kernel
theorem dX9_fault_19 : decode cX9_fault 19 = .ok (.iconst 1, 1) := by decide +kernel
theorem dX9_fault_20 : decode cX9_fault 20 = .ok (.invokevirtual 84, 3) := by decide +kernel
theorem dX9_fault_23 : decode cX9_fault 23 = .ok (.goto 8, 3) := by decide +kernel
theorem dX9_fault_26 : decode cX9_fault 26 = .ok (.aload_n 0, 1) := by decide +kernel
theorem dX9_fault_27 : decode cX9_fault 27 = .ok (.iload_n 1, 1) := by decide +kernel
theorem dX9_fault_28 : decode cX9_fault 28 = .ok (.invokevirtual 152, 3) := by decide +kernel
theorem dX9_fault_31 : decode cX9_fault 31 = .ok (.ireturn, 1) := by decide +kernel
def fX9_fault_0  (a0 : Nat) (x1 : Int32) (h : gz_H) : Option (Int32 × gz_H) :=
    gz_b2 (fX9_isText x1 h) fun y_2 h_1 =>
    if y_2 = 0 then (
     some ((-1 : Int32), h_1)
    ) else (
     gz_ck (gz_sh h_1 a0 9 29) <|
     gz_br (h_1.2.2.2 a0 9) fun r_5 =>
     gz_ck (gz_inb h_1 r_5 10 x1) <|
     if 0 ≤ (h_1.2.1 r_5 x1.toNatClampNeg) then (
      gz_b2 (fX9_faultOf a0 x1 h_1) fun y_9 h_8 =>
      some (y_9, h_8)
     ) else (
      gz_b2 (fX9_find a0 (1 : Int32) h_1) fun y_11 h_10 =>
      some (y_11, h_10)
     )
    )
set_option maxRecDepth 100000 in
set_option maxHeartbeats 1000000 in
theorem sX9_fault_0 {G : gz_G} {d l0 s0 : Nat} {Q : Int32 → gz_H → Prop} (a0 : Nat) (x1 : Int32) (h : gz_H) (hf : gz_g (fX9_fault_0  a0 x1 h) Q) : gz_Ok G mX9_fault (d + 4, l0, s0, 0, 0) 0 [.ref a0, .int x1] [] h (gz_qi Q) := by
  unfold fX9_fault_0 at hf
  refine gz_iload_n (pc := 0) dX9_fault_0 rfl rfl ?_
  refine gz_cSI (av := [.int x1]) (st := []) (pc := 1) dX9_fault_1 kl_RX9_103 rfl rfl (Nat.le_of_ble_eq_true rfl) (by show d + 2 + 1 + 1 ≤ d + 4; omega) (sX9_isText (d := d + 2) (gz_gc hf)) (fun y_2 h_1 hf => ?_)
  refine gz_if_ne (tgt := 9) (pc := 4) dX9_fault_4 rfl (fun c_3 => ?_) (fun c_3 => ?_)
  · have hf := gz_gF hf c_3
    refine gz_aload_n (pc := 9) dX9_fault_9 rfl rfl ?_
    refine gz_gk hf (fun c_4 hf => ?_)
    refine gz_gb hf (fun r_5 er_5 hf => ?_)
    refine gz_getR (pc := 10) dX9_fault_10 fl_RX9_31 rfl (gz_shs c_4) er_5 ?_
    refine gz_iload_n (pc := 13) dX9_fault_13 rfl rfl ?_
    refine gz_gk hf (fun c_6 hf => ?_)
    refine gz_iald (pc := 14) dX9_fault_14 c_6 ?_
    refine gz_if_ge (tgt := 26) (pc := 15) dX9_fault_15 rfl (fun c_7 => ?_) (fun c_7 => ?_)
    · have hf := gz_gT hf c_7
      refine gz_aload_n (pc := 26) dX9_fault_26 rfl rfl ?_
      refine gz_iload_n (pc := 27) dX9_fault_27 rfl rfl ?_
      refine gz_cVI (av := [.int x1]) (st := []) (pc := 28) dX9_fault_28 kl_RX9_152 rfl (gz_shs c_4) rfl rfl (Nat.le_of_ble_eq_true rfl) (by show d + 0 + 3 + 1 ≤ d + 4; omega) (sX9_faultOf (d := d + 0) (gz_gc hf)) (fun y_9 h_8 hf => ?_)
      exact gz_irt (pc := 31) dX9_fault_31 rfl rfl hf
    · have hf := gz_gF hf c_7
      refine gz_aload_n (pc := 18) dX9_fault_18 rfl rfl ?_
      refine gz_iconst (v := (1 : Int32)) (pc := 19) dX9_fault_19 rfl ?_
      refine gz_cVI (av := [.int (1 : Int32)]) (st := []) (pc := 20) dX9_fault_20 kl_RX9_84 rfl (gz_shs c_4) rfl rfl (Nat.le_of_ble_eq_true rfl) (by show d + 3 + 0 + 1 ≤ d + 4; omega) (sX9_find (d := d + 3) (gz_gc hf)) (fun y_11 h_10 hf => ?_)
      refine gz_goto (tgt := 31) (pc := 23) dX9_fault_23 rfl ?_
      exact gz_irt (pc := 31) dX9_fault_31 rfl rfl hf
  · have hf := gz_gT hf c_3
    refine gz_iconst (v := (-1 : Int32)) (pc := 7) dX9_fault_7 rfl ?_
    exact gz_irt (pc := 8) dX9_fault_8 rfl rfl hf
def fX9_fault (a0 : Nat) (x1 : Int32) (h : gz_H) : Option (Int32 × gz_H) := fX9_fault_0 a0 x1 h
theorem sX9_fault {G : gz_G} {d : Nat} {a0 : Nat} {x1 : Int32} {h : gz_H} {Q : Int32 → gz_H → Prop} (hf : gz_g (fX9_fault a0 x1 h) Q) : gz_Cl G mX9_fault (d + 4) 0 0 [.ref a0, .int x1] h (gz_qi Q) := gz_cl_of (lo := [.ref a0, .int x1]) (by decide) rfl rfl (Nat.le_of_ble_eq_true rfl) (sX9_fault_0 a0 x1 h hf)
theorem dX9_flock_0 : decode cX9_flock 0 = .ok (.iload_n 1, 1) := by decide +kernel
theorem dX9_flock_1 : decode cX9_flock 1 = .ok (.invokestatic 103, 3) := by decide +kernel
theorem dX9_flock_4 : decode cX9_flock 4 = .ok (.ifCond .ne 5, 3) := by decide +kernel
theorem dX9_flock_7 : decode cX9_flock 7 = .ok (.iconst (-1), 1) := by decide +kernel
theorem dX9_flock_8 : decode cX9_flock 8 = .ok (.ireturn, 1) := by decide +kernel
theorem dX9_flock_9 : decode cX9_flock 9 = .ok (.aload_n 0, 1) := by decide +kernel
theorem dX9_flock_10 : decode cX9_flock 10 = .ok (.getfield 31, 3) := by decide +kernel
theorem dX9_flock_13 : decode cX9_flock 13 = .ok (.iload_n 1, 1) := by decide +kernel
theorem dX9_flock_14 : decode cX9_flock 14 = .ok (.iaload, 1) := by decide +kernel
theorem dX9_flock_15 : decode cX9_flock 15 = .ok (.ifCond .ge 9, 3) := by decide +kernel
theorem dX9_flock_18 : decode cX9_flock 18 = .ok (.aload_n 0, 1) := by decide +kernel
theorem dX9_flock_19 : decode cX9_flock 19 = .ok (.iconst 1, 1) := by decide +kernel
theorem dX9_flock_20 : decode cX9_flock 20 = .ok (.invokevirtual 84, 3) := by decide +kernel
theorem dX9_flock_23 : decode cX9_flock 23 = .ok (.ireturn, 1) := by decide +kernel
theorem dX9_flock_24 : decode cX9_flock 24 = .ok (.aload_n 0, 1) := by decide +kernel
theorem dX9_flock_25 : decode cX9_flock 25 = .ok (.iload_n 1, 1) := by decide +kernel
theorem dX9_flock_26 : decode cX9_flock 26 = .ok (.invokevirtual 152, 3) := by decide +kernel
theorem dX9_flock_29 : decode cX9_flock 29 = .ok (.bipush (-9), 2) := by decide +kernel
theorem dX9_flock_31 : decode cX9_flock 31 = .ok (.if_icmp .eq 6, 3) := by decide +kernel
theorem dX9_flock_34 : decode cX9_flock 34 = .ok (.bipush (-4), 2) := by decide +kernel
theorem dX9_flock_36 : decode cX9_flock 36 = .ok (.ireturn, 1) := by decide +kernel
theorem dX9_flock_37 : decode cX9_flock 37 = .ok (.aload_n 0, 1) := by decide +kernel
theorem dX9_flock_38 : decode cX9_flock 38 = .ok (.aload_n 0, 1) := by decide +kernel
theorem dX9_flock_39 : decode cX9_flock 39 = .ok (.getfield 130, 3) := by decide +kernel
theorem dX9_flock_42 : decode cX9_flock 42 = .ok (.putfield 155, 3) := by decide +kernel
theorem dX9_flock_45 : decode cX9_flock 45 = .ok (.aload_n 0, 1) := by decide +kernel
theorem dX9_flock_46 : decode cX9_flock 46 = .ok (.aload_n 0, 1) := by decide +kernel
theorem dX9_flock_47 : decode cX9_flock 47 = .ok (.getfield 139, 3) := by decide +kernel
theorem dX9_flock_50 : decode cX9_flock 50 = .ok (.putfield 158, 3) := by decide +kernel
theorem dX9_flock_53 : decode cX9_flock 53 = .ok (.iconst 0, 1) := by decide +kernel
theorem dX9_flock_54 : decode cX9_flock 54 = .ok (.istore_n 2, 1) := by decide +kernel
theorem dX9_flock_55 : decode cX9_flock 55 = .ok (.iload_n 2, 1) := by decide +kernel
theorem dX9_flock_56 : decode cX9_flock 56 = .ok (.aload_n 0, 1) := by decide +kernel
theorem dX9_flock_57 : decode cX9_flock 57 = .ok (.getfield 155, 3) := by decide +kernel
theorem dX9_flock_60 : decode cX9_flock 60 = .ok (.if_icmp .ge 21, 3) := by decide +kernel
theorem dX9_flock_63 : decode cX9_flock 63 = .ok (.aload_n 0, 1) := by decide +kernel
theorem dX9_flock_64 : decode cX9_flock 64 = .ok (.getfield 13, 3) := by decide +kernel
theorem dX9_flock_67 : decode cX9_flock 67 = .ok (.iload_n 2, 1) := by decide +kernel
theorem dX9_flock_68 : decode cX9_flock 68 = .ok (.aload_n 0, 1) := by decide +kernel
theorem dX9_flock_69 : decode cX9_flock 69 = .ok (.getfield 44, 3) := by decide +kernel
theorem dX9_flock_72 : decode cX9_flock 72 = .ok (.iload_n 2, 1) := by decide +kernel
theorem dX9_flock_73 : decode cX9_flock 73 = .ok (.iaload, 1) := by decide +kernel
theorem dX9_flock_74 : decode cX9_flock 74 = .ok (.iastore, 1) := by decide +kernel
theorem dX9_flock_75 : decode cX9_flock 75 = .ok (.iinc 2 1, 3) := by decide +kernel
theorem dX9_flock_78 : decode cX9_flock 78 = .ok (.goto (-23), 3) := by decide +kernel
theorem dX9_flock_81 : decode cX9_flock 81 = .ok (.iconst 0, 1) := by decide +kernel
theorem dX9_flock_82 : decode cX9_flock 82 = .ok (.istore_n 2, 1) := by decide +kernel
theorem dX9_flock_83 : decode cX9_flock 83 = .ok (.iload_n 2, 1) := by decide +kernel
theorem dX9_flock_84 : decode cX9_flock 84 = .ok (.sipush 2256, 3) := by decide +kernel
theorem dX9_flock_87 : decode cX9_flock 87 = .ok (.if_icmp .ge 16, 3) := by decide +kernel
theorem dX9_flock_90 : decode cX9_flock 90 = .ok (.aload_n 0, 1) := by decide +kernel
theorem dX9_flock_91 : decode cX9_flock 91 = .ok (.getfield 7, 3) := by decide +kernel
theorem dX9_flock_94 : decode cX9_flock 94 = .ok (.iload_n 2, 1) := by decide +kernel
theorem dX9_flock_95 : decode cX9_flock 95 = .ok (.iconst 0, 1) := by decide +kernel
theorem dX9_flock_96 : decode cX9_flock 96 = .ok (.iastore, 1) := by decide +kernel
theorem dX9_flock_97 : decode cX9_flock 97 = .ok (.iinc 2 1, 3) := by decide +kernel
theorem dX9_flock_100 : decode cX9_flock 100 = .ok (.goto (-17), 3) := by decide +kernel
theorem dX9_flock_103 : decode cX9_flock 103 = .ok (.iconst 0, 1) := by decide +kernel
theorem dX9_flock_104 : decode cX9_flock 104 = .ok (.istore_n 2, 1) := by decide +kernel
theorem dX9_flock_105 : decode cX9_flock 105 = .ok (.iload_n 2, 1) := by decide +kernel
theorem dX9_flock_106 : decode cX9_flock 106 = .ok (.aload_n 0, 1) := by decide +kernel
theorem dX9_flock_107 : decode cX9_flock 107 = .ok (.getfield 158, 3) := by decide +kernel
theorem dX9_flock_110 : decode cX9_flock 110 = .ok (.if_icmp .ge 112, 3) := by decide +kernel
theorem dX9_flock_113 : decode cX9_flock 113 = .ok (.aload_n 0, 1) := by decide +kernel
theorem dX9_flock_114 : decode cX9_flock 114 = .ok (.getfield 16, 3) := by decide +kernel
theorem dX9_flock_117 : decode cX9_flock 117 = .ok (.iload_n 2, 1) := by decide +kernel
theorem dX9_flock_118 : decode cX9_flock 118 = .ok (.aload_n 0, 1) := by decide +kernel
theorem dX9_flock_119 : decode cX9_flock 119 = .ok (.getfield 47, 3) := by decide +kernel
theorem dX9_flock_122 : decode cX9_flock 122 = .ok (.iconst 3, 1) := by decide +kernel
theorem dX9_flock_123 : decode cX9_flock 123 = .ok (.iload_n 2, 1) := by decide +kernel
theorem dX9_flock_124 : decode cX9_flock 124 = .ok (.imul, 1) := by decide +kernel
theorem dX9_flock_125 : decode cX9_flock 125 = .ok (.iaload, 1) := by decide +kernel
theorem dX9_flock_126 : decode cX9_flock 126 = .ok (.iastore, 1) := by decide +kernel
theorem dX9_flock_127 : decode cX9_flock 127 = .ok (.aload_n 0, 1) := by decide +kernel
theorem dX9_flock_128 : decode cX9_flock 128 = .ok (.getfield 19, 3) := by decide +kernel
theorem dX9_flock_131 : decode cX9_flock 131 = .ok (.iload_n 2, 1) := by decide +kernel
theorem dX9_flock_132 : decode cX9_flock 132 = .ok (.aload_n 0, 1) := by decide +kernel
theorem dX9_flock_133 : decode cX9_flock 133 = .ok (.getfield 47, 3) := by decide +kernel
theorem dX9_flock_136 : decode cX9_flock 136 = .ok (.iconst 3, 1) := by decide +kernel
theorem dX9_flock_137 : decode cX9_flock 137 = .ok (.iload_n 2, 1) := by decide +kernel
theorem dX9_flock_138 : decode cX9_flock 138 = .ok (.imul, 1) := by decide +kernel
theorem dX9_flock_139 : decode cX9_flock 139 = .ok (.iconst 1, 1) := by decide +kernel
theorem dX9_flock_140 : decode cX9_flock 140 = .ok (.iadd, 1) := by decide +kernel
theorem dX9_flock_141 : decode cX9_flock 141 = .ok (.iaload, 1) := by decide +kernel
theorem dX9_flock_142 : decode cX9_flock 142 = .ok (.iastore, 1) := by decide +kernel
theorem dX9_flock_143 : decode cX9_flock 143 = .ok (.aload_n 0, 1) := by decide +kernel
theorem dX9_flock_144 : decode cX9_flock 144 = .ok (.getfield 22, 3) := by decide +kernel
theorem dX9_flock_147 : decode cX9_flock 147 = .ok (.iload_n 2, 1) := by decide +kernel
theorem dX9_flock_148 : decode cX9_flock 148 = .ok (.aload_n 0, 1) := by decide +kernel
theorem dX9_flock_149 : decode cX9_flock 149 = .ok (.getfield 47, 3) := by decide +kernel
theorem dX9_flock_152 : decode cX9_flock 152 = .ok (.iconst 3, 1) := by decide +kernel
theorem dX9_flock_153 : decode cX9_flock 153 = .ok (.iload_n 2, 1) := by decide +kernel
theorem dX9_flock_154 : decode cX9_flock 154 = .ok (.imul, 1) := by decide +kernel
theorem dX9_flock_155 : decode cX9_flock 155 = .ok (.iconst 2, 1) := by decide +kernel
theorem dX9_flock_156 : decode cX9_flock 156 = .ok (.iadd, 1) := by decide +kernel
theorem dX9_flock_157 : decode cX9_flock 157 = .ok (.iaload, 1) := by decide +kernel
theorem dX9_flock_158 : decode cX9_flock 158 = .ok (.iastore, 1) := by decide +kernel
theorem dX9_flock_159 : decode cX9_flock 159 = .ok (.aload_n 0, 1) := by decide +kernel
theorem dX9_flock_160 : decode cX9_flock 160 = .ok (.getfield 7, 3) := by decide +kernel
theorem dX9_flock_163 : decode cX9_flock 163 = .ok (.iconst 2, 1) := by decide +kernel
theorem dX9_flock_164 : decode cX9_flock 164 = .ok (.iload_n 2, 1) := by decide +kernel
theorem dX9_flock_165 : decode cX9_flock 165 = .ok (.iadd, 1) := by decide +kernel
theorem dX9_flock_166 : decode cX9_flock 166 = .ok (.aload_n 0, 1) := by decide +kernel
theorem dX9_flock_167 : decode cX9_flock 167 = .ok (.getfield 50, 3) := by decide +kernel
theorem dX9_flock_170 : decode cX9_flock 170 = .ok (.iload_n 2, 1) := by decide +kernel
theorem dX9_flock_171 : decode cX9_flock 171 = .ok (.iaload, 1) := by decide +kernel
theorem dX9_flock_172 : decode cX9_flock 172 = .ok (.iastore, 1) := by decide +kernel
theorem dX9_flock_173 : decode cX9_flock 173 = .ok (.iconst 0, 1) := by decide +kernel
theorem dX9_flock_174 : decode cX9_flock 174 = .ok (.istore_n 3, 1) := by decide +kernel
theorem dX9_flock_175 : decode cX9_flock 175 = .ok (.iload_n 3, 1) := by decide +kernel
theorem dX9_flock_176 : decode cX9_flock 176 = .ok (.aload_n 0, 1) := by decide +kernel
theorem dX9_flock_177 : decode cX9_flock 177 = .ok (.getfield 50, 3) := by decide +kernel
theorem dX9_flock_180 : decode cX9_flock 180 = .ok (.iload_n 2, 1) := by decide +kernel
theorem dX9_flock_181 : decode cX9_flock 181 = .ok (.iaload, 1) := by decide +kernel
theorem dX9_flock_182 : decode cX9_flock 182 = .ok (.if_icmp .ge 34, 3) := by decide +kernel
theorem dX9_flock_185 : decode cX9_flock 185 = .ok (.aload_n 0, 1) := by decide +kernel
theorem dX9_flock_186 : decode cX9_flock 186 = .ok (.getfield 7, 3) := by decide +kernel
theorem dX9_flock_189 : decode cX9_flock 189 = .ok (.bipush 8, 2) := by decide +kernel
theorem dX9_flock_191 : decode cX9_flock 191 = .ok (.bipush 8, 2) := by decide +kernel
theorem dX9_flock_193 : decode cX9_flock 193 = .ok (.iload_n 2, 1) := by decide +kernel
theorem dX9_flock_194 : decode cX9_flock 194 = .ok (.imul, 1) := by decide +kernel
theorem dX9_flock_195 : decode cX9_flock 195 = .ok (.iadd, 1) := by decide +kernel
theorem dX9_flock_196 : decode cX9_flock 196 = .ok (.iload_n 3, 1) := by decide +kernel
theorem dX9_flock_197 : decode cX9_flock 197 = .ok (.iadd, 1) := by decide +kernel
theorem dX9_flock_198 : decode cX9_flock 198 = .ok (.aload_n 0, 1) := by decide +kernel
theorem dX9_flock_199 : decode cX9_flock 199 = .ok (.getfield 53, 3) := by decide +kernel
theorem dX9_flock_202 : decode cX9_flock 202 = .ok (.bipush 8, 2) := by decide +kernel
theorem dX9_flock_204 : decode cX9_flock 204 = .ok (.iload_n 2, 1) := by decide +kernel
theorem dX9_flock_205 : decode cX9_flock 205 = .ok (.imul, 1) := by decide +kernel
theorem dX9_flock_206 : decode cX9_flock 206 = .ok (.iload_n 3, 1) := by decide +kernel
theorem dX9_flock_207 : decode cX9_flock 207 = .ok (.iadd, 1) := by decide +kernel
theorem dX9_flock_208 : decode cX9_flock 208 = .ok (.iaload, 1) := by decide +kernel
theorem dX9_flock_209 : decode cX9_flock 209 = .ok (.iastore, 1) := by decide +kernel
theorem dX9_flock_210 : decode cX9_flock 210 = .ok (.iinc 3 1, 3) := by decide +kernel
theorem dX9_flock_213 : decode cX9_flock 213 = .ok (.goto (-38), 3) := by decide +kernel
theorem dX9_flock_216 : decode cX9_flock 216 = .ok (.iinc 2 1, 3) := by decide +kernel
theorem dX9_flock_219 : decode cX9_flock 219 = .ok (.goto (-114), 3) := by decide +kernel
theorem dX9_flock_222 : decode cX9_flock 222 = .ok (.iconst 1, 1) := by decide +kernel
theorem dX9_flock_223 : decode cX9_flock 223 = .ok (.istore_n 2, 1) := by decide +kernel
theorem dX9_flock_224 : decode cX9_flock 224 = .ok (.iload_n 2, 1) := by decide +kernel
theorem dX9_flock_225 : decode cX9_flock 225 = .ok (.iconst 4, 1) := by decide +kernel
theorem dX9_flock_226 : decode cX9_flock 226 = .ok (.if_icmp .ge 22, 3) := by decide +kernel
theorem dX9_flock_229 : decode cX9_flock 229 = .ok (.aload_n 0, 1) := by decide +kernel
theorem dX9_flock_230 : decode cX9_flock 230 = .ok (.getfield 7, 3) := by decide +kernel
theorem dX9_flock_233 : decode cX9_flock 233 = .ok (.sipush 2256, 3) := by decide +kernel
theorem dX9_flock_236 : decode cX9_flock 236 = .ok (.iload_n 2, 1) := by decide +kernel
theorem dX9_flock_237 : decode cX9_flock 237 = .ok (.imul, 1) := by decide +kernel
theorem dX9_flock_238 : decode cX9_flock 238 = .ok (.iconst 0, 1) := by decide +kernel
theorem dX9_flock_239 : decode cX9_flock 239 = .ok (.iadd, 1) := by decide +kernel
theorem dX9_flock_240 : decode cX9_flock 240 = .ok (.iconst (-1), 1) := by decide +kernel
theorem dX9_flock_241 : decode cX9_flock 241 = .ok (.iastore, 1) := by decide +kernel
theorem dX9_flock_242 : decode cX9_flock 242 = .ok (.iinc 2 1, 3) := by decide +kernel
theorem dX9_flock_245 : decode cX9_flock 245 = .ok (.goto (-21), 3) := by decide +kernel
theorem dX9_flock_248 : decode cX9_flock 248 = .ok (.aload_n 0, 1) := by decide +kernel
theorem dX9_flock_249 : decode cX9_flock 249 = .ok (.getfield 158, 3) := by decide +kernel
theorem dX9_flock_252 : decode cX9_flock 252 = .ok (.ireturn, 1) := by decide +kernel
def fX9_flock_175 (k105 : Nat → Int32 → gz_H → Option (Int32 × gz_H)) : Nat → Nat → Int32 → Int32 → gz_H → Option (Int32 × gz_H)
  | 0, _, _, _, _ => none
  | n + 1, a0, x2, x3, h =>
    gz_ck (gz_sh h a0 9 29) <|
    gz_br (h.2.2.2 a0 22) fun r_2 =>
    gz_ck (gz_inb h r_2 10 x2) <|
    if (h.2.1 r_2 x2.toNatClampNeg) ≤ x3 then (
     k105 a0 (x2 + 1) h
    ) else (
     gz_br (h.2.2.2 a0 0) fun r_5 =>
     gz_br (h.2.2.2 a0 23) fun r_6 =>
     gz_ck (gz_inb h r_6 10 (((8 : Int32) * x2) + x3)) <|
     gz_ck (gz_inb h r_5 10 (((8 : Int32) + ((8 : Int32) * x2)) + x3)) <|
     gz_lt (uI h r_5 (((8 : Int32) + ((8 : Int32) * x2)) + x3).toNatClampNeg (h.2.1 r_6 (((8 : Int32) * x2) + x3).toNatClampNeg)) fun h_9 =>
     fX9_flock_175 k105 n a0 x2 (x3 + 1) h_9
    )
set_option maxRecDepth 100000 in
set_option maxHeartbeats 1000000 in
theorem sX9_flock_175 {G : gz_G} {d l0 s0 : Nat} {Q : Int32 → gz_H → Prop} {k105 : Nat → Int32 → gz_H → Option (Int32 × gz_H)} (hk105 : ∀ (a0 : Nat) (x2 : Int32) (h : gz_H), gz_g (k105 a0 x2 h) Q → gz_Ok G mX9_flock (d + 4, l0, s0, 0, 0) 105 [.ref a0, .retAddr 0, .int x2, .retAddr 0] [] h (gz_qi Q)) : ∀ (n : Nat) (a0 : Nat) (x2 : Int32) (x3 : Int32) (h : gz_H), gz_g (fX9_flock_175 k105 n a0 x2 x3 h) Q → gz_Ok G mX9_flock (d + 4, l0, s0, 0, 0) 175 [.ref a0, .retAddr 0, .int x2, .int x3] [] h (gz_qi Q) := by
  intro n
  induction n with
  | zero => intro a0 x2 x3 h hf; exact False.elim hf
  | succ n ih =>
    intro a0 x2 x3 h hf
    rw [fX9_flock_175] at hf
    refine gz_iload_n (pc := 175) dX9_flock_175 rfl rfl ?_
    refine gz_aload_n (pc := 176) dX9_flock_176 rfl rfl ?_
    refine gz_gk hf (fun c_1 hf => ?_)
    refine gz_gb hf (fun r_2 er_2 hf => ?_)
    refine gz_getR (pc := 177) dX9_flock_177 fl_RX9_50 rfl (gz_shs c_1) er_2 ?_
    refine gz_iload_n (pc := 180) dX9_flock_180 rfl rfl ?_
    refine gz_gk hf (fun c_3 hf => ?_)
    refine gz_iald (pc := 181) dX9_flock_181 c_3 ?_
    refine gz_icmp_ge (tgt := 216) (pc := 182) dX9_flock_182 rfl (fun c_4 => ?_) (fun c_4 => ?_)
    · have hf := gz_gT hf c_4
      refine gz_iinc (v := x2 + 1) (lv := [.ref a0, .retAddr 0, .int (x2 + 1), .int x3]) (pc := 216) dX9_flock_216 rfl rfl (by decide) rfl ?_
      refine gz_goto (tgt := 105) (pc := 219) dX9_flock_219 rfl ?_
      refine gz_fg (lv := [.ref a0, .retAddr 0, .int (x2 + 1), .retAddr 0]) ⟨Or.inr rfl, ⟨Or.inl rfl, ⟨Or.inr rfl, ⟨Or.inl rfl, trivial⟩⟩⟩⟩ ?_
      exact hk105 a0 (x2 + 1) h hf
    · have hf := gz_gF hf c_4
      refine gz_aload_n (pc := 185) dX9_flock_185 rfl rfl ?_
      refine gz_gb hf (fun r_5 er_5 hf => ?_)
      refine gz_getR (pc := 186) dX9_flock_186 fl_RX9_7 rfl (gz_shs c_1) er_5 ?_
      refine gz_bipush (v := (8 : Int32)) (pc := 189) dX9_flock_189 rfl ?_
      refine gz_bipush (v := (8 : Int32)) (pc := 191) dX9_flock_191 rfl ?_
      refine gz_iload_n (pc := 193) dX9_flock_193 rfl rfl ?_
      refine gz_imul (pc := 194) dX9_flock_194 ?_
      refine gz_iadd (pc := 195) dX9_flock_195 ?_
      refine gz_iload_n (pc := 196) dX9_flock_196 rfl rfl ?_
      refine gz_iadd (pc := 197) dX9_flock_197 ?_
      refine gz_aload_n (pc := 198) dX9_flock_198 rfl rfl ?_
      refine gz_gb hf (fun r_6 er_6 hf => ?_)
      refine gz_getR (pc := 199) dX9_flock_199 fl_RX9_53 rfl (gz_shs c_1) er_6 ?_
      refine gz_bipush (v := (8 : Int32)) (pc := 202) dX9_flock_202 rfl ?_
      refine gz_iload_n (pc := 204) dX9_flock_204 rfl rfl ?_
      refine gz_imul (pc := 205) dX9_flock_205 ?_
      refine gz_iload_n (pc := 206) dX9_flock_206 rfl rfl ?_
      refine gz_iadd (pc := 207) dX9_flock_207 ?_
      refine gz_gk hf (fun c_7 hf => ?_)
      refine gz_iald (pc := 208) dX9_flock_208 c_7 ?_
      refine gz_gk hf (fun c_8 hf => ?_)
      refine gz_iast (pc := 209) dX9_flock_209 c_8 ?_
      refine gz_nmH (fun h_9 eh_9 => ?_)
      have hf := gz_gl eh_9 hf
      refine gz_iinc (v := x3 + 1) (lv := [.ref a0, .retAddr 0, .int x2, .int (x3 + 1)]) (pc := 210) dX9_flock_210 rfl rfl (by decide) rfl ?_
      refine gz_goto (tgt := 175) (pc := 213) dX9_flock_213 rfl ?_
      exact ih a0 x2 (x3 + 1) h_9 hf
def fX9_flock_224  : Nat → Nat → Int32 → gz_H → Option (Int32 × gz_H)
  | 0, _, _, _ => none
  | n + 1, a0, x2, h =>
    if (4 : Int32) ≤ x2 then (
     gz_ck (gz_sh h a0 9 29) <|
     some (h.2.1 a0 3, h)
    ) else (
     gz_ck (gz_sh h a0 9 29) <|
     gz_br (h.2.2.2 a0 0) fun r_4 =>
     gz_ck (gz_inb h r_4 10 (((2256 : Int32) * x2) + (0 : Int32))) <|
     gz_lt (uI h r_4 (((2256 : Int32) * x2) + (0 : Int32)).toNatClampNeg (-1 : Int32)) fun h_6 =>
     fX9_flock_224 n a0 (x2 + 1) h_6
    )
set_option maxRecDepth 100000 in
set_option maxHeartbeats 1000000 in
theorem sX9_flock_224 {G : gz_G} {d l0 s0 : Nat} {Q : Int32 → gz_H → Prop} : ∀ (n : Nat) (a0 : Nat) (x2 : Int32) (h : gz_H), gz_g (fX9_flock_224  n a0 x2 h) Q → gz_Ok G mX9_flock (d + 4, l0, s0, 0, 0) 224 [.ref a0, .retAddr 0, .int x2, .retAddr 0] [] h (gz_qi Q) := by
  intro n
  induction n with
  | zero => intro a0 x2 h hf; exact False.elim hf
  | succ n ih =>
    intro a0 x2 h hf
    rw [fX9_flock_224] at hf
    refine gz_iload_n (pc := 224) dX9_flock_224 rfl rfl ?_
    refine gz_iconst (v := (4 : Int32)) (pc := 225) dX9_flock_225 rfl ?_
    refine gz_icmp_ge (tgt := 248) (pc := 226) dX9_flock_226 rfl (fun c_1 => ?_) (fun c_1 => ?_)
    · have hf := gz_gT hf c_1
      refine gz_aload_n (pc := 248) dX9_flock_248 rfl rfl ?_
      refine gz_gk hf (fun c_2 hf => ?_)
      refine gz_getI (pc := 249) dX9_flock_249 fl_RX9_158 rfl (gz_shs c_2) ?_
      exact gz_irt (pc := 252) dX9_flock_252 rfl rfl hf
    · have hf := gz_gF hf c_1
      refine gz_aload_n (pc := 229) dX9_flock_229 rfl rfl ?_
      refine gz_gk hf (fun c_3 hf => ?_)
      refine gz_gb hf (fun r_4 er_4 hf => ?_)
      refine gz_getR (pc := 230) dX9_flock_230 fl_RX9_7 rfl (gz_shs c_3) er_4 ?_
      refine gz_sipush (v := (2256 : Int32)) (pc := 233) dX9_flock_233 rfl ?_
      refine gz_iload_n (pc := 236) dX9_flock_236 rfl rfl ?_
      refine gz_imul (pc := 237) dX9_flock_237 ?_
      refine gz_iconst (v := (0 : Int32)) (pc := 238) dX9_flock_238 rfl ?_
      refine gz_iadd (pc := 239) dX9_flock_239 ?_
      refine gz_iconst (v := (-1 : Int32)) (pc := 240) dX9_flock_240 rfl ?_
      refine gz_gk hf (fun c_5 hf => ?_)
      refine gz_iast (pc := 241) dX9_flock_241 c_5 ?_
      refine gz_nmH (fun h_6 eh_6 => ?_)
      have hf := gz_gl eh_6 hf
      refine gz_iinc (v := x2 + 1) (lv := [.ref a0, .retAddr 0, .int (x2 + 1), .retAddr 0]) (pc := 242) dX9_flock_242 rfl rfl (by decide) rfl ?_
      refine gz_goto (tgt := 224) (pc := 245) dX9_flock_245 rfl ?_
      exact ih a0 (x2 + 1) h_6 hf
def fX9_flock_105  : Nat → Nat → Int32 → gz_H → Option (Int32 × gz_H)
  | 0, _, _, _ => none
  | n + 1, a0, x2, h =>
    gz_ck (gz_sh h a0 9 29) <|
    if (h.2.1 a0 3) ≤ x2 then (
     fX9_flock_224 gz_fu a0 (1 : Int32) h
    ) else (
     gz_br (h.2.2.2 a0 4) fun r_3 =>
     gz_br (h.2.2.2 a0 21) fun r_4 =>
     gz_ck (gz_inb h r_4 10 ((3 : Int32) * x2)) <|
     gz_ck (gz_inb h r_3 10 x2) <|
     gz_lt (uI h r_3 x2.toNatClampNeg (h.2.1 r_4 ((3 : Int32) * x2).toNatClampNeg)) fun h_7 =>
     gz_ck (gz_sh h_7 a0 9 29) <|
     gz_br (h_7.2.2.2 a0 5) fun r_9 =>
     gz_br (h_7.2.2.2 a0 21) fun r_10 =>
     gz_ck (gz_inb h_7 r_10 10 (((3 : Int32) * x2) + (1 : Int32))) <|
     gz_ck (gz_inb h_7 r_9 10 x2) <|
     gz_lt (uI h_7 r_9 x2.toNatClampNeg (h_7.2.1 r_10 (((3 : Int32) * x2) + (1 : Int32)).toNatClampNeg)) fun h_13 =>
     gz_ck (gz_sh h_13 a0 9 29) <|
     gz_br (h_13.2.2.2 a0 6) fun r_15 =>
     gz_br (h_13.2.2.2 a0 21) fun r_16 =>
     gz_ck (gz_inb h_13 r_16 10 (((3 : Int32) * x2) + (2 : Int32))) <|
     gz_ck (gz_inb h_13 r_15 10 x2) <|
     gz_lt (uI h_13 r_15 x2.toNatClampNeg (h_13.2.1 r_16 (((3 : Int32) * x2) + (2 : Int32)).toNatClampNeg)) fun h_19 =>
     gz_ck (gz_sh h_19 a0 9 29) <|
     gz_br (h_19.2.2.2 a0 0) fun r_21 =>
     gz_br (h_19.2.2.2 a0 22) fun r_22 =>
     gz_ck (gz_inb h_19 r_22 10 x2) <|
     gz_ck (gz_inb h_19 r_21 10 ((2 : Int32) + x2)) <|
     gz_lt (uI h_19 r_21 ((2 : Int32) + x2).toNatClampNeg (h_19.2.1 r_22 x2.toNatClampNeg)) fun h_25 =>
     fX9_flock_175 (fun z0 z1 zh => fX9_flock_105 n z0 z1 zh) gz_fu a0 x2 (0 : Int32) h_25
    )
set_option maxRecDepth 100000 in
set_option maxHeartbeats 1000000 in
theorem sX9_flock_105 {G : gz_G} {d l0 s0 : Nat} {Q : Int32 → gz_H → Prop} : ∀ (n : Nat) (a0 : Nat) (x2 : Int32) (h : gz_H), gz_g (fX9_flock_105  n a0 x2 h) Q → gz_Ok G mX9_flock (d + 4, l0, s0, 0, 0) 105 [.ref a0, .retAddr 0, .int x2, .retAddr 0] [] h (gz_qi Q) := by
  intro n
  induction n with
  | zero => intro a0 x2 h hf; exact False.elim hf
  | succ n ih =>
    intro a0 x2 h hf
    rw [fX9_flock_105] at hf
    refine gz_iload_n (pc := 105) dX9_flock_105 rfl rfl ?_
    refine gz_aload_n (pc := 106) dX9_flock_106 rfl rfl ?_
    refine gz_gk hf (fun c_1 hf => ?_)
    refine gz_getI (pc := 107) dX9_flock_107 fl_RX9_158 rfl (gz_shs c_1) ?_
    refine gz_icmp_ge (tgt := 222) (pc := 110) dX9_flock_110 rfl (fun c_2 => ?_) (fun c_2 => ?_)
    · have hf := gz_gT hf c_2
      refine gz_iconst (v := (1 : Int32)) (pc := 222) dX9_flock_222 rfl ?_
      refine gz_istore_n (lv := [.ref a0, .retAddr 0, .int (1 : Int32), .retAddr 0]) (pc := 223) dX9_flock_223 rfl (by decide) rfl ?_
      exact sX9_flock_224 gz_fu a0 (1 : Int32) h hf
    · have hf := gz_gF hf c_2
      refine gz_aload_n (pc := 113) dX9_flock_113 rfl rfl ?_
      refine gz_gb hf (fun r_3 er_3 hf => ?_)
      refine gz_getR (pc := 114) dX9_flock_114 fl_RX9_16 rfl (gz_shs c_1) er_3 ?_
      refine gz_iload_n (pc := 117) dX9_flock_117 rfl rfl ?_
      refine gz_aload_n (pc := 118) dX9_flock_118 rfl rfl ?_
      refine gz_gb hf (fun r_4 er_4 hf => ?_)
      refine gz_getR (pc := 119) dX9_flock_119 fl_RX9_47 rfl (gz_shs c_1) er_4 ?_
      refine gz_iconst (v := (3 : Int32)) (pc := 122) dX9_flock_122 rfl ?_
      refine gz_iload_n (pc := 123) dX9_flock_123 rfl rfl ?_
      refine gz_imul (pc := 124) dX9_flock_124 ?_
      refine gz_gk hf (fun c_5 hf => ?_)
      refine gz_iald (pc := 125) dX9_flock_125 c_5 ?_
      refine gz_gk hf (fun c_6 hf => ?_)
      refine gz_iast (pc := 126) dX9_flock_126 c_6 ?_
      refine gz_nmH (fun h_7 eh_7 => ?_)
      have hf := gz_gl eh_7 hf
      refine gz_aload_n (pc := 127) dX9_flock_127 rfl rfl ?_
      refine gz_gk hf (fun c_8 hf => ?_)
      refine gz_gb hf (fun r_9 er_9 hf => ?_)
      refine gz_getR (pc := 128) dX9_flock_128 fl_RX9_19 rfl (gz_shs c_8) er_9 ?_
      refine gz_iload_n (pc := 131) dX9_flock_131 rfl rfl ?_
      refine gz_aload_n (pc := 132) dX9_flock_132 rfl rfl ?_
      refine gz_gb hf (fun r_10 er_10 hf => ?_)
      refine gz_getR (pc := 133) dX9_flock_133 fl_RX9_47 rfl (gz_shs c_8) er_10 ?_
      refine gz_iconst (v := (3 : Int32)) (pc := 136) dX9_flock_136 rfl ?_
      refine gz_iload_n (pc := 137) dX9_flock_137 rfl rfl ?_
      refine gz_imul (pc := 138) dX9_flock_138 ?_
      refine gz_iconst (v := (1 : Int32)) (pc := 139) dX9_flock_139 rfl ?_
      refine gz_iadd (pc := 140) dX9_flock_140 ?_
      refine gz_gk hf (fun c_11 hf => ?_)
      refine gz_iald (pc := 141) dX9_flock_141 c_11 ?_
      refine gz_gk hf (fun c_12 hf => ?_)
      refine gz_iast (pc := 142) dX9_flock_142 c_12 ?_
      refine gz_nmH (fun h_13 eh_13 => ?_)
      have hf := gz_gl eh_13 hf
      refine gz_aload_n (pc := 143) dX9_flock_143 rfl rfl ?_
      refine gz_gk hf (fun c_14 hf => ?_)
      refine gz_gb hf (fun r_15 er_15 hf => ?_)
      refine gz_getR (pc := 144) dX9_flock_144 fl_RX9_22 rfl (gz_shs c_14) er_15 ?_
      refine gz_iload_n (pc := 147) dX9_flock_147 rfl rfl ?_
      refine gz_aload_n (pc := 148) dX9_flock_148 rfl rfl ?_
      refine gz_gb hf (fun r_16 er_16 hf => ?_)
      refine gz_getR (pc := 149) dX9_flock_149 fl_RX9_47 rfl (gz_shs c_14) er_16 ?_
      refine gz_iconst (v := (3 : Int32)) (pc := 152) dX9_flock_152 rfl ?_
      refine gz_iload_n (pc := 153) dX9_flock_153 rfl rfl ?_
      refine gz_imul (pc := 154) dX9_flock_154 ?_
      refine gz_iconst (v := (2 : Int32)) (pc := 155) dX9_flock_155 rfl ?_
      refine gz_iadd (pc := 156) dX9_flock_156 ?_
      refine gz_gk hf (fun c_17 hf => ?_)
      refine gz_iald (pc := 157) dX9_flock_157 c_17 ?_
      refine gz_gk hf (fun c_18 hf => ?_)
      refine gz_iast (pc := 158) dX9_flock_158 c_18 ?_
      refine gz_nmH (fun h_19 eh_19 => ?_)
      have hf := gz_gl eh_19 hf
      refine gz_aload_n (pc := 159) dX9_flock_159 rfl rfl ?_
      refine gz_gk hf (fun c_20 hf => ?_)
      refine gz_gb hf (fun r_21 er_21 hf => ?_)
      refine gz_getR (pc := 160) dX9_flock_160 fl_RX9_7 rfl (gz_shs c_20) er_21 ?_
      refine gz_iconst (v := (2 : Int32)) (pc := 163) dX9_flock_163 rfl ?_
      refine gz_iload_n (pc := 164) dX9_flock_164 rfl rfl ?_
      refine gz_iadd (pc := 165) dX9_flock_165 ?_
      refine gz_aload_n (pc := 166) dX9_flock_166 rfl rfl ?_
      refine gz_gb hf (fun r_22 er_22 hf => ?_)
      refine gz_getR (pc := 167) dX9_flock_167 fl_RX9_50 rfl (gz_shs c_20) er_22 ?_
      refine gz_iload_n (pc := 170) dX9_flock_170 rfl rfl ?_
      refine gz_gk hf (fun c_23 hf => ?_)
      refine gz_iald (pc := 171) dX9_flock_171 c_23 ?_
      refine gz_gk hf (fun c_24 hf => ?_)
      refine gz_iast (pc := 172) dX9_flock_172 c_24 ?_
      refine gz_nmH (fun h_25 eh_25 => ?_)
      have hf := gz_gl eh_25 hf
      refine gz_iconst (v := (0 : Int32)) (pc := 173) dX9_flock_173 rfl ?_
      refine gz_istore_n (lv := [.ref a0, .retAddr 0, .int x2, .int (0 : Int32)]) (pc := 174) dX9_flock_174 rfl (by decide) rfl ?_
      exact sX9_flock_175 ih gz_fu a0 x2 (0 : Int32) h_25 hf
def fX9_flock_83  : Nat → Nat → Int32 → gz_H → Option (Int32 × gz_H)
  | 0, _, _, _ => none
  | n + 1, a0, x2, h =>
    if (2256 : Int32) ≤ x2 then (
     fX9_flock_105 gz_fu a0 (0 : Int32) h
    ) else (
     gz_ck (gz_sh h a0 9 29) <|
     gz_br (h.2.2.2 a0 0) fun r_3 =>
     gz_ck (gz_inb h r_3 10 x2) <|
     gz_lt (uI h r_3 x2.toNatClampNeg (0 : Int32)) fun h_5 =>
     fX9_flock_83 n a0 (x2 + 1) h_5
    )
set_option maxRecDepth 100000 in
set_option maxHeartbeats 1000000 in
theorem sX9_flock_83 {G : gz_G} {d l0 s0 : Nat} {Q : Int32 → gz_H → Prop} : ∀ (n : Nat) (a0 : Nat) (x2 : Int32) (h : gz_H), gz_g (fX9_flock_83  n a0 x2 h) Q → gz_Ok G mX9_flock (d + 4, l0, s0, 0, 0) 83 [.ref a0, .retAddr 0, .int x2, .retAddr 0] [] h (gz_qi Q) := by
  intro n
  induction n with
  | zero => intro a0 x2 h hf; exact False.elim hf
  | succ n ih =>
    intro a0 x2 h hf
    rw [fX9_flock_83] at hf
    refine gz_iload_n (pc := 83) dX9_flock_83 rfl rfl ?_
    refine gz_sipush (v := (2256 : Int32)) (pc := 84) dX9_flock_84 rfl ?_
    refine gz_icmp_ge (tgt := 103) (pc := 87) dX9_flock_87 rfl (fun c_1 => ?_) (fun c_1 => ?_)
    · have hf := gz_gT hf c_1
      refine gz_iconst (v := (0 : Int32)) (pc := 103) dX9_flock_103 rfl ?_
      refine gz_istore_n (lv := [.ref a0, .retAddr 0, .int (0 : Int32), .retAddr 0]) (pc := 104) dX9_flock_104 rfl (by decide) rfl ?_
      exact sX9_flock_105 gz_fu a0 (0 : Int32) h hf
    · have hf := gz_gF hf c_1
      refine gz_aload_n (pc := 90) dX9_flock_90 rfl rfl ?_
      refine gz_gk hf (fun c_2 hf => ?_)
      refine gz_gb hf (fun r_3 er_3 hf => ?_)
      refine gz_getR (pc := 91) dX9_flock_91 fl_RX9_7 rfl (gz_shs c_2) er_3 ?_
      refine gz_iload_n (pc := 94) dX9_flock_94 rfl rfl ?_
      refine gz_iconst (v := (0 : Int32)) (pc := 95) dX9_flock_95 rfl ?_
      refine gz_gk hf (fun c_4 hf => ?_)
      refine gz_iast (pc := 96) dX9_flock_96 c_4 ?_
      refine gz_nmH (fun h_5 eh_5 => ?_)
      have hf := gz_gl eh_5 hf
      refine gz_iinc (v := x2 + 1) (lv := [.ref a0, .retAddr 0, .int (x2 + 1), .retAddr 0]) (pc := 97) dX9_flock_97 rfl rfl (by decide) rfl ?_
      refine gz_goto (tgt := 83) (pc := 100) dX9_flock_100 rfl ?_
      exact ih a0 (x2 + 1) h_5 hf
def fX9_flock_55  : Nat → Nat → Int32 → gz_H → Option (Int32 × gz_H)
  | 0, _, _, _ => none
  | n + 1, a0, x2, h =>
    gz_ck (gz_sh h a0 9 29) <|
    if (h.2.1 a0 1) ≤ x2 then (
     fX9_flock_83 gz_fu a0 (0 : Int32) h
    ) else (
     gz_br (h.2.2.2 a0 2) fun r_3 =>
     gz_br (h.2.2.2 a0 19) fun r_4 =>
     gz_ck (gz_inb h r_4 10 x2) <|
     gz_ck (gz_inb h r_3 10 x2) <|
     gz_lt (uI h r_3 x2.toNatClampNeg (h.2.1 r_4 x2.toNatClampNeg)) fun h_7 =>
     fX9_flock_55 n a0 (x2 + 1) h_7
    )
set_option maxRecDepth 100000 in
set_option maxHeartbeats 1000000 in
theorem sX9_flock_55 {G : gz_G} {d l0 s0 : Nat} {Q : Int32 → gz_H → Prop} : ∀ (n : Nat) (a0 : Nat) (x2 : Int32) (h : gz_H), gz_g (fX9_flock_55  n a0 x2 h) Q → gz_Ok G mX9_flock (d + 4, l0, s0, 0, 0) 55 [.ref a0, .retAddr 0, .int x2, .retAddr 0] [] h (gz_qi Q) := by
  intro n
  induction n with
  | zero => intro a0 x2 h hf; exact False.elim hf
  | succ n ih =>
    intro a0 x2 h hf
    rw [fX9_flock_55] at hf
    refine gz_iload_n (pc := 55) dX9_flock_55 rfl rfl ?_
    refine gz_aload_n (pc := 56) dX9_flock_56 rfl rfl ?_
    refine gz_gk hf (fun c_1 hf => ?_)
    refine gz_getI (pc := 57) dX9_flock_57 fl_RX9_155 rfl (gz_shs c_1) ?_
    refine gz_icmp_ge (tgt := 81) (pc := 60) dX9_flock_60 rfl (fun c_2 => ?_) (fun c_2 => ?_)
    · have hf := gz_gT hf c_2
      refine gz_iconst (v := (0 : Int32)) (pc := 81) dX9_flock_81 rfl ?_
      refine gz_istore_n (lv := [.ref a0, .retAddr 0, .int (0 : Int32), .retAddr 0]) (pc := 82) dX9_flock_82 rfl (by decide) rfl ?_
      exact sX9_flock_83 gz_fu a0 (0 : Int32) h hf
    · have hf := gz_gF hf c_2
      refine gz_aload_n (pc := 63) dX9_flock_63 rfl rfl ?_
      refine gz_gb hf (fun r_3 er_3 hf => ?_)
      refine gz_getR (pc := 64) dX9_flock_64 fl_RX9_13 rfl (gz_shs c_1) er_3 ?_
      refine gz_iload_n (pc := 67) dX9_flock_67 rfl rfl ?_
      refine gz_aload_n (pc := 68) dX9_flock_68 rfl rfl ?_
      refine gz_gb hf (fun r_4 er_4 hf => ?_)
      refine gz_getR (pc := 69) dX9_flock_69 fl_RX9_44 rfl (gz_shs c_1) er_4 ?_
      refine gz_iload_n (pc := 72) dX9_flock_72 rfl rfl ?_
      refine gz_gk hf (fun c_5 hf => ?_)
      refine gz_iald (pc := 73) dX9_flock_73 c_5 ?_
      refine gz_gk hf (fun c_6 hf => ?_)
      refine gz_iast (pc := 74) dX9_flock_74 c_6 ?_
      refine gz_nmH (fun h_7 eh_7 => ?_)
      have hf := gz_gl eh_7 hf
      refine gz_iinc (v := x2 + 1) (lv := [.ref a0, .retAddr 0, .int (x2 + 1), .retAddr 0]) (pc := 75) dX9_flock_75 rfl rfl (by decide) rfl ?_
      refine gz_goto (tgt := 55) (pc := 78) dX9_flock_78 rfl ?_
      exact ih a0 (x2 + 1) h_7 hf
def fX9_flock_0  (a0 : Nat) (x1 : Int32) (h : gz_H) : Option (Int32 × gz_H) :=
    gz_b2 (fX9_isText x1 h) fun y_2 h_1 =>
    if y_2 = 0 then (
     some ((-1 : Int32), h_1)
    ) else (
     gz_ck (gz_sh h_1 a0 9 29) <|
     gz_br (h_1.2.2.2 a0 9) fun r_5 =>
     gz_ck (gz_inb h_1 r_5 10 x1) <|
     if 0 ≤ (h_1.2.1 r_5 x1.toNatClampNeg) then (
      gz_b2 (fX9_faultOf a0 x1 h_1) fun y_9 h_8 =>
      if y_9 = (-9 : Int32) then (
       gz_ck (gz_sh h_8 a0 9 29) <|
       gz_lt (uI h_8 a0 1 (h_8.2.1 a0 20)) fun h_12 =>
       gz_ck (gz_sh h_12 a0 9 29) <|
       gz_lt (uI h_12 a0 3 (h_12.2.1 a0 24)) fun h_14 =>
       fX9_flock_55 gz_fu a0 (0 : Int32) h_14
      ) else (
       some ((-4 : Int32), h_8)
      )
     ) else (
      gz_b2 (fX9_find a0 (1 : Int32) h_1) fun y_16 h_15 =>
      some (y_16, h_15)
     )
    )
set_option maxRecDepth 100000 in
set_option maxHeartbeats 1000000 in
theorem sX9_flock_0 {G : gz_G} {d l0 s0 : Nat} {Q : Int32 → gz_H → Prop} (a0 : Nat) (x1 : Int32) (h : gz_H) (hf : gz_g (fX9_flock_0  a0 x1 h) Q) : gz_Ok G mX9_flock (d + 4, l0, s0, 0, 0) 0 [.ref a0, .int x1, .retAddr 0, .retAddr 0] [] h (gz_qi Q) := by
  unfold fX9_flock_0 at hf
  refine gz_iload_n (pc := 0) dX9_flock_0 rfl rfl ?_
  refine gz_cSI (av := [.int x1]) (st := []) (pc := 1) dX9_flock_1 kl_RX9_103 rfl rfl (Nat.le_of_ble_eq_true rfl) (by show d + 2 + 1 + 1 ≤ d + 4; omega) (sX9_isText (d := d + 2) (gz_gc hf)) (fun y_2 h_1 hf => ?_)
  refine gz_if_ne (tgt := 9) (pc := 4) dX9_flock_4 rfl (fun c_3 => ?_) (fun c_3 => ?_)
  · have hf := gz_gF hf c_3
    refine gz_aload_n (pc := 9) dX9_flock_9 rfl rfl ?_
    refine gz_gk hf (fun c_4 hf => ?_)
    refine gz_gb hf (fun r_5 er_5 hf => ?_)
    refine gz_getR (pc := 10) dX9_flock_10 fl_RX9_31 rfl (gz_shs c_4) er_5 ?_
    refine gz_iload_n (pc := 13) dX9_flock_13 rfl rfl ?_
    refine gz_gk hf (fun c_6 hf => ?_)
    refine gz_iald (pc := 14) dX9_flock_14 c_6 ?_
    refine gz_if_ge (tgt := 24) (pc := 15) dX9_flock_15 rfl (fun c_7 => ?_) (fun c_7 => ?_)
    · have hf := gz_gT hf c_7
      refine gz_aload_n (pc := 24) dX9_flock_24 rfl rfl ?_
      refine gz_iload_n (pc := 25) dX9_flock_25 rfl rfl ?_
      refine gz_cVI (av := [.int x1]) (st := []) (pc := 26) dX9_flock_26 kl_RX9_152 rfl (gz_shs c_4) rfl rfl (Nat.le_of_ble_eq_true rfl) (by show d + 0 + 3 + 1 ≤ d + 4; omega) (sX9_faultOf (d := d + 0) (gz_gc hf)) (fun y_9 h_8 hf => ?_)
      refine gz_bipush (v := (-9 : Int32)) (pc := 29) dX9_flock_29 rfl ?_
      refine gz_icmp_eq (tgt := 37) (pc := 31) dX9_flock_31 rfl (fun c_10 => ?_) (fun c_10 => ?_)
      · have hf := gz_gT hf c_10
        refine gz_aload_n (pc := 37) dX9_flock_37 rfl rfl ?_
        refine gz_aload_n (pc := 38) dX9_flock_38 rfl rfl ?_
        refine gz_gk hf (fun c_11 hf => ?_)
        refine gz_getI (pc := 39) dX9_flock_39 fl_RX9_130 rfl (gz_shs c_11) ?_
        refine gz_putI (pc := 42) dX9_flock_42 fw_X9_flock_155 rfl rfl rfl (gz_shs c_11) ?_
        refine gz_nmH (fun h_12 eh_12 => ?_)
        have hf := gz_gl eh_12 hf
        refine gz_aload_n (pc := 45) dX9_flock_45 rfl rfl ?_
        refine gz_aload_n (pc := 46) dX9_flock_46 rfl rfl ?_
        refine gz_gk hf (fun c_13 hf => ?_)
        refine gz_getI (pc := 47) dX9_flock_47 fl_RX9_139 rfl (gz_shs c_13) ?_
        refine gz_putI (pc := 50) dX9_flock_50 fw_X9_flock_158 rfl rfl rfl (gz_shs c_13) ?_
        refine gz_nmH (fun h_14 eh_14 => ?_)
        have hf := gz_gl eh_14 hf
        refine gz_iconst (v := (0 : Int32)) (pc := 53) dX9_flock_53 rfl ?_
        refine gz_istore_n (lv := [.ref a0, .int x1, .int (0 : Int32), .retAddr 0]) (pc := 54) dX9_flock_54 rfl (by decide) rfl ?_
        refine gz_fg (lv := [.ref a0, .retAddr 0, .int (0 : Int32), .retAddr 0]) ⟨Or.inr rfl, ⟨Or.inl rfl, ⟨Or.inr rfl, ⟨Or.inl rfl, trivial⟩⟩⟩⟩ ?_
        exact sX9_flock_55 gz_fu a0 (0 : Int32) h_14 hf
      · have hf := gz_gF hf c_10
        refine gz_bipush (v := (-4 : Int32)) (pc := 34) dX9_flock_34 rfl ?_
        exact gz_irt (pc := 36) dX9_flock_36 rfl rfl hf
    · have hf := gz_gF hf c_7
      refine gz_aload_n (pc := 18) dX9_flock_18 rfl rfl ?_
      refine gz_iconst (v := (1 : Int32)) (pc := 19) dX9_flock_19 rfl ?_
      refine gz_cVI (av := [.int (1 : Int32)]) (st := []) (pc := 20) dX9_flock_20 kl_RX9_84 rfl (gz_shs c_4) rfl rfl (Nat.le_of_ble_eq_true rfl) (by show d + 3 + 0 + 1 ≤ d + 4; omega) (sX9_find (d := d + 3) (gz_gc hf)) (fun y_16 h_15 hf => ?_)
      exact gz_irt (pc := 23) dX9_flock_23 rfl rfl hf
  · have hf := gz_gT hf c_3
    refine gz_iconst (v := (-1 : Int32)) (pc := 7) dX9_flock_7 rfl ?_
    exact gz_irt (pc := 8) dX9_flock_8 rfl rfl hf
def fX9_flock (a0 : Nat) (x1 : Int32) (h : gz_H) : Option (Int32 × gz_H) := fX9_flock_0 a0 x1 h
theorem sX9_flock {G : gz_G} {d : Nat} {a0 : Nat} {x1 : Int32} {h : gz_H} {Q : Int32 → gz_H → Prop} (hf : gz_g (fX9_flock a0 x1 h) Q) : gz_Cl G mX9_flock (d + 4) 0 0 [.ref a0, .int x1] h (gz_qi Q) := gz_cl_of (lo := [.ref a0, .int x1, .retAddr 0, .retAddr 0]) (by decide) rfl rfl (Nat.le_of_ble_eq_true rfl) (sX9_flock_0 a0 x1 h hf)
theorem dX9_isGoose_0 : decode cX9_isGoose 0 = .ok (.iload_n 1, 1) := by decide +kernel
theorem dX9_isGoose_1 : decode cX9_isGoose 1 = .ok (.i2l, 1) := by decide +kernel
theorem dX9_isGoose_2 : decode cX9_isGoose 2 = .ok (.lconst 0, 1) := by decide +kernel
theorem dX9_isGoose_3 : decode cX9_isGoose 3 = .ok (.aload_n 0, 1) := by decide +kernel
theorem dX9_isGoose_4 : decode cX9_isGoose 4 = .ok (.getfield 158, 3) := by decide +kernel
theorem dX9_isGoose_7 : decode cX9_isGoose 7 = .ok (.iconst 1, 1) := by decide +kernel
theorem dX9_isGoose_8 : decode cX9_isGoose 8 = .ok (.isub, 1) := by decide +kernel
theorem dX9_isGoose_9 : decode cX9_isGoose 9 = .ok (.i2l, 1) := by decide +kernel
theorem dX9_isGoose_10 : decode cX9_isGoose 10 = .ok (.invokestatic 74, 3) := by decide +kernel
theorem dX9_isGoose_13 : decode cX9_isGoose 13 = .ok (.ireturn, 1) := by decide +kernel
def fX9_isGoose_0  (a0 : Nat) (x1 : Int32) (h : gz_H) : Option (Int32 × gz_H) :=
    gz_ck (gz_sh h a0 9 29) <|
    gz_b2 (fX9_in x1.toInt64 (0 : Int64) (((h.2.1 a0 3) - (1 : Int32)).toInt64) h) fun y_3 h_2 =>
    gz_ck (gz_bo y_3) <|
    some (y_3, h_2)
set_option maxRecDepth 100000 in
set_option maxHeartbeats 1000000 in
theorem sX9_isGoose_0 {G : gz_G} {d l0 s0 : Nat} {Q : Int32 → gz_H → Prop} (a0 : Nat) (x1 : Int32) (h : gz_H) (hf : gz_g (fX9_isGoose_0  a0 x1 h) Q) : gz_Ok G mX9_isGoose (d + 1, l0, s0, 0, 0) 0 [.ref a0, .int x1] [] h (gz_qi Q) := by
  unfold fX9_isGoose_0 at hf
  refine gz_iload_n (pc := 0) dX9_isGoose_0 rfl rfl ?_
  refine gz_i2l (pc := 1) dX9_isGoose_1 ?_
  refine gz_lconst (v := (0 : Int64)) (pc := 2) dX9_isGoose_2 rfl ?_
  refine gz_aload_n (pc := 3) dX9_isGoose_3 rfl rfl ?_
  refine gz_gk hf (fun c_1 hf => ?_)
  refine gz_getI (pc := 4) dX9_isGoose_4 fl_RX9_158 rfl (gz_shs c_1) ?_
  refine gz_iconst (v := (1 : Int32)) (pc := 7) dX9_isGoose_7 rfl ?_
  refine gz_isub (pc := 8) dX9_isGoose_8 ?_
  refine gz_i2l (pc := 9) dX9_isGoose_9 ?_
  refine gz_cSI (av := [.long x1.toInt64, .long (0 : Int64), .long (((h.2.1 a0 3) - (1 : Int32)).toInt64)]) (st := []) (pc := 10) dX9_isGoose_10 kl_RX9_74 rfl rfl (Nat.le_of_ble_eq_true rfl) (by show d + 0 + 0 + 1 ≤ d + 1; omega) (sX9_in (d := d + 0) (gz_gc hf)) (fun y_3 h_2 hf => ?_)
  refine gz_gk hf (fun c_4 hf => ?_)
  exact gz_irt (pc := 13) dX9_isGoose_13 rfl (by rcases (gz_bos c_4) with h8 | h8 <;> rw [h8] <;> rfl) hf
def fX9_isGoose (a0 : Nat) (x1 : Int32) (h : gz_H) : Option (Int32 × gz_H) := fX9_isGoose_0 a0 x1 h
theorem sX9_isGoose {G : gz_G} {d : Nat} {a0 : Nat} {x1 : Int32} {h : gz_H} {Q : Int32 → gz_H → Prop} (hf : gz_g (fX9_isGoose a0 x1 h) Q) : gz_Cl G mX9_isGoose (d + 1) 0 0 [.ref a0, .int x1] h (gz_qi Q) := gz_cl_of (lo := [.ref a0, .int x1]) (by decide) rfl rfl (Nat.le_of_ble_eq_true rfl) (sX9_isGoose_0 a0 x1 h hf)
theorem dX9_isFact_0 : decode cX9_isFact 0 = .ok (.iload_n 1, 1) := by decide +kernel
theorem dX9_isFact_1 : decode cX9_isFact 1 = .ok (.i2l, 1) := by decide +kernel
theorem dX9_isFact_2 : decode cX9_isFact 2 = .ok (.lconst 0, 1) := by decide +kernel
theorem dX9_isFact_3 : decode cX9_isFact 3 = .ok (.aload_n 0, 1) := by decide +kernel
theorem dX9_isFact_4 : decode cX9_isFact 4 = .ok (.getfield 155, 3) := by decide +kernel
theorem dX9_isFact_7 : decode cX9_isFact 7 = .ok (.iconst 1, 1) := by decide +kernel
theorem dX9_isFact_8 : decode cX9_isFact 8 = .ok (.isub, 1) := by decide +kernel
theorem dX9_isFact_9 : decode cX9_isFact 9 = .ok (.i2l, 1) := by decide +kernel
theorem dX9_isFact_10 : decode cX9_isFact 10 = .ok (.invokestatic 74, 3) := by decide +kernel
theorem dX9_isFact_13 : decode cX9_isFact 13 = .ok (.ireturn, 1) := by decide +kernel
def fX9_isFact_0  (a0 : Nat) (x1 : Int32) (h : gz_H) : Option (Int32 × gz_H) :=
    gz_ck (gz_sh h a0 9 29) <|
    gz_b2 (fX9_in x1.toInt64 (0 : Int64) (((h.2.1 a0 1) - (1 : Int32)).toInt64) h) fun y_3 h_2 =>
    gz_ck (gz_bo y_3) <|
    some (y_3, h_2)
set_option maxRecDepth 100000 in
set_option maxHeartbeats 1000000 in
theorem sX9_isFact_0 {G : gz_G} {d l0 s0 : Nat} {Q : Int32 → gz_H → Prop} (a0 : Nat) (x1 : Int32) (h : gz_H) (hf : gz_g (fX9_isFact_0  a0 x1 h) Q) : gz_Ok G mX9_isFact (d + 1, l0, s0, 0, 0) 0 [.ref a0, .int x1] [] h (gz_qi Q) := by
  unfold fX9_isFact_0 at hf
  refine gz_iload_n (pc := 0) dX9_isFact_0 rfl rfl ?_
  refine gz_i2l (pc := 1) dX9_isFact_1 ?_
  refine gz_lconst (v := (0 : Int64)) (pc := 2) dX9_isFact_2 rfl ?_
  refine gz_aload_n (pc := 3) dX9_isFact_3 rfl rfl ?_
  refine gz_gk hf (fun c_1 hf => ?_)
  refine gz_getI (pc := 4) dX9_isFact_4 fl_RX9_155 rfl (gz_shs c_1) ?_
  refine gz_iconst (v := (1 : Int32)) (pc := 7) dX9_isFact_7 rfl ?_
  refine gz_isub (pc := 8) dX9_isFact_8 ?_
  refine gz_i2l (pc := 9) dX9_isFact_9 ?_
  refine gz_cSI (av := [.long x1.toInt64, .long (0 : Int64), .long (((h.2.1 a0 1) - (1 : Int32)).toInt64)]) (st := []) (pc := 10) dX9_isFact_10 kl_RX9_74 rfl rfl (Nat.le_of_ble_eq_true rfl) (by show d + 0 + 0 + 1 ≤ d + 1; omega) (sX9_in (d := d + 0) (gz_gc hf)) (fun y_3 h_2 hf => ?_)
  refine gz_gk hf (fun c_4 hf => ?_)
  exact gz_irt (pc := 13) dX9_isFact_13 rfl (by rcases (gz_bos c_4) with h8 | h8 <;> rw [h8] <;> rfl) hf
def fX9_isFact (a0 : Nat) (x1 : Int32) (h : gz_H) : Option (Int32 × gz_H) := fX9_isFact_0 a0 x1 h
theorem sX9_isFact {G : gz_G} {d : Nat} {a0 : Nat} {x1 : Int32} {h : gz_H} {Q : Int32 → gz_H → Prop} (hf : gz_g (fX9_isFact a0 x1 h) Q) : gz_Cl G mX9_isFact (d + 1) 0 0 [.ref a0, .int x1] h (gz_qi Q) := gz_cl_of (lo := [.ref a0, .int x1]) (by decide) rfl rfl (Nat.le_of_ble_eq_true rfl) (sX9_isFact_0 a0 x1 h hf)
theorem dX9_isSet_0 : decode cX9_isSet 0 = .ok (.iload_n 1, 1) := by decide +kernel
theorem dX9_isSet_1 : decode cX9_isSet 1 = .ok (.i2l, 1) := by decide +kernel
theorem dX9_isSet_2 : decode cX9_isSet 2 = .ok (.lconst 0, 1) := by decide +kernel
theorem dX9_isSet_3 : decode cX9_isSet 3 = .ok (.iconst 1, 1) := by decide +kernel
theorem dX9_isSet_4 : decode cX9_isSet 4 = .ok (.aload_n 0, 1) := by decide +kernel
theorem dX9_isSet_5 : decode cX9_isSet 5 = .ok (.getfield 155, 3) := by decide +kernel
theorem dX9_isSet_8 : decode cX9_isSet 8 = .ok (.ishl, 1) := by decide +kernel
theorem dX9_isSet_9 : decode cX9_isSet 9 = .ok (.iconst 1, 1) := by decide +kernel
theorem dX9_isSet_10 : decode cX9_isSet 10 = .ok (.isub, 1) := by decide +kernel
theorem dX9_isSet_11 : decode cX9_isSet 11 = .ok (.i2l, 1) := by decide +kernel
theorem dX9_isSet_12 : decode cX9_isSet 12 = .ok (.invokestatic 74, 3) := by decide +kernel
theorem dX9_isSet_15 : decode cX9_isSet 15 = .ok (.ireturn, 1) := by decide +kernel
def fX9_isSet_0  (a0 : Nat) (x1 : Int32) (h : gz_H) : Option (Int32 × gz_H) :=
    gz_ck (gz_sh h a0 9 29) <|
    gz_b2 (fX9_in x1.toInt64 (0 : Int64) ((((1 : Int32) <<< ((h.2.1 a0 1) &&& 31)) - (1 : Int32)).toInt64) h) fun y_3 h_2 =>
    gz_ck (gz_bo y_3) <|
    some (y_3, h_2)
set_option maxRecDepth 100000 in
set_option maxHeartbeats 1000000 in
theorem sX9_isSet_0 {G : gz_G} {d l0 s0 : Nat} {Q : Int32 → gz_H → Prop} (a0 : Nat) (x1 : Int32) (h : gz_H) (hf : gz_g (fX9_isSet_0  a0 x1 h) Q) : gz_Ok G mX9_isSet (d + 1, l0, s0, 0, 0) 0 [.ref a0, .int x1] [] h (gz_qi Q) := by
  unfold fX9_isSet_0 at hf
  refine gz_iload_n (pc := 0) dX9_isSet_0 rfl rfl ?_
  refine gz_i2l (pc := 1) dX9_isSet_1 ?_
  refine gz_lconst (v := (0 : Int64)) (pc := 2) dX9_isSet_2 rfl ?_
  refine gz_iconst (v := (1 : Int32)) (pc := 3) dX9_isSet_3 rfl ?_
  refine gz_aload_n (pc := 4) dX9_isSet_4 rfl rfl ?_
  refine gz_gk hf (fun c_1 hf => ?_)
  refine gz_getI (pc := 5) dX9_isSet_5 fl_RX9_155 rfl (gz_shs c_1) ?_
  refine gz_ishl (pc := 8) dX9_isSet_8 ?_
  refine gz_iconst (v := (1 : Int32)) (pc := 9) dX9_isSet_9 rfl ?_
  refine gz_isub (pc := 10) dX9_isSet_10 ?_
  refine gz_i2l (pc := 11) dX9_isSet_11 ?_
  refine gz_cSI (av := [.long x1.toInt64, .long (0 : Int64), .long ((((1 : Int32) <<< ((h.2.1 a0 1) &&& 31)) - (1 : Int32)).toInt64)]) (st := []) (pc := 12) dX9_isSet_12 kl_RX9_74 rfl rfl (Nat.le_of_ble_eq_true rfl) (by show d + 0 + 0 + 1 ≤ d + 1; omega) (sX9_in (d := d + 0) (gz_gc hf)) (fun y_3 h_2 hf => ?_)
  refine gz_gk hf (fun c_4 hf => ?_)
  exact gz_irt (pc := 15) dX9_isSet_15 rfl (by rcases (gz_bos c_4) with h8 | h8 <;> rw [h8] <;> rfl) hf
def fX9_isSet (a0 : Nat) (x1 : Int32) (h : gz_H) : Option (Int32 × gz_H) := fX9_isSet_0 a0 x1 h
theorem sX9_isSet {G : gz_G} {d : Nat} {a0 : Nat} {x1 : Int32} {h : gz_H} {Q : Int32 → gz_H → Prop} (hf : gz_g (fX9_isSet a0 x1 h) Q) : gz_Cl G mX9_isSet (d + 1) 0 0 [.ref a0, .int x1] h (gz_qi Q) := gz_cl_of (lo := [.ref a0, .int x1]) (by decide) rfl rfl (Nat.le_of_ble_eq_true rfl) (sX9_isSet_0 a0 x1 h hf)
theorem dX9_isPlace_0 : decode cX9_isPlace 0 = .ok (.iload_n 0, 1) := by decide +kernel
theorem dX9_isPlace_1 : decode cX9_isPlace 1 = .ok (.i2l, 1) := by decide +kernel
theorem dX9_isPlace_2 : decode cX9_isPlace 2 = .ok (.lconst 0, 1) := by decide +kernel
theorem dX9_isPlace_3 : decode cX9_isPlace 3 = .ok (.ldc2_w 72, 3) := by decide +kernel
theorem dX9_isPlace_6 : decode cX9_isPlace 6 = .ok (.invokestatic 74, 3) := by decide +kernel
theorem dX9_isPlace_9 : decode cX9_isPlace 9 = .ok (.ireturn, 1) := by decide +kernel
def fX9_isPlace_0  (x0 : Int32) (h : gz_H) : Option (Int32 × gz_H) :=
    gz_b2 (fX9_in x0.toInt64 (0 : Int64) (5 : Int64) h) fun y_2 h_1 =>
    gz_ck (gz_bo y_2) <|
    some (y_2, h_1)
set_option maxRecDepth 100000 in
set_option maxHeartbeats 1000000 in
theorem sX9_isPlace_0 {G : gz_G} {d l0 s0 : Nat} {Q : Int32 → gz_H → Prop} (x0 : Int32) (h : gz_H) (hf : gz_g (fX9_isPlace_0  x0 h) Q) : gz_Ok G mX9_isPlace (d + 1, l0, s0, 0, 0) 0 [.int x0] [] h (gz_qi Q) := by
  unfold fX9_isPlace_0 at hf
  refine gz_iload_n (pc := 0) dX9_isPlace_0 rfl rfl ?_
  refine gz_i2l (pc := 1) dX9_isPlace_1 ?_
  refine gz_lconst (v := (0 : Int64)) (pc := 2) dX9_isPlace_2 rfl ?_
  refine gz_ldc2 (v := (5 : Int64)) (pc := 3) dX9_isPlace_3 kc_RX9_72 ?_
  refine gz_cSI (av := [.long x0.toInt64, .long (0 : Int64), .long (5 : Int64)]) (st := []) (pc := 6) dX9_isPlace_6 kl_RX9_74 rfl rfl (Nat.le_of_ble_eq_true rfl) (by show d + 0 + 0 + 1 ≤ d + 1; omega) (sX9_in (d := d + 0) (gz_gc hf)) (fun y_2 h_1 hf => ?_)
  refine gz_gk hf (fun c_3 hf => ?_)
  exact gz_irt (pc := 9) dX9_isPlace_9 rfl (by rcases (gz_bos c_3) with h8 | h8 <;> rw [h8] <;> rfl) hf
def fX9_isPlace (x0 : Int32) (h : gz_H) : Option (Int32 × gz_H) := fX9_isPlace_0 x0 h
theorem sX9_isPlace {G : gz_G} {d : Nat} {x0 : Int32} {h : gz_H} {Q : Int32 → gz_H → Prop} (hf : gz_g (fX9_isPlace x0 h) Q) : gz_Cl G mX9_isPlace (d + 1) 0 0 [.int x0] h (gz_qi Q) := gz_cl_of (lo := [.int x0]) (by decide) rfl rfl (Nat.le_of_ble_eq_true rfl) (sX9_isPlace_0 x0 h hf)
theorem dX9_isGone_0 : decode cX9_isGone 0 = .ok (.aload_n 0, 1) := by decide +kernel
theorem dX9_isGone_1 : decode cX9_isGone 1 = .ok (.getfield 7, 3) := by decide +kernel
theorem dX9_isGone_4 : decode cX9_isGone 4 = .ok (.iconst 1, 1) := by decide +kernel
theorem dX9_isGone_5 : decode cX9_isGone 5 = .ok (.iaload, 1) := by decide +kernel
theorem dX9_isGone_6 : decode cX9_isGone 6 = .ok (.iload_n 1, 1) := by decide +kernel
theorem dX9_isGone_7 : decode cX9_isGone 7 = .ok (.invokestatic 142, 3) := by decide +kernel
theorem dX9_isGone_10 : decode cX9_isGone 10 = .ok (.ireturn, 1) := by decide +kernel
def fX9_isGone_0  (a0 : Nat) (x1 : Int32) (h : gz_H) : Option (Int32 × gz_H) :=
    gz_ck (gz_sh h a0 9 29) <|
    gz_br (h.2.2.2 a0 0) fun r_2 =>
    gz_ck (gz_inb h r_2 10 (1 : Int32)) <|
    gz_b2 (fX9_has (h.2.1 r_2 (1 : Int32).toNatClampNeg) x1 h) fun y_5 h_4 =>
    gz_ck (gz_bo y_5) <|
    some (y_5, h_4)
set_option maxRecDepth 100000 in
set_option maxHeartbeats 1000000 in
theorem sX9_isGone_0 {G : gz_G} {d l0 s0 : Nat} {Q : Int32 → gz_H → Prop} (a0 : Nat) (x1 : Int32) (h : gz_H) (hf : gz_g (fX9_isGone_0  a0 x1 h) Q) : gz_Ok G mX9_isGone (d + 1, l0, s0, 0, 0) 0 [.ref a0, .int x1] [] h (gz_qi Q) := by
  unfold fX9_isGone_0 at hf
  refine gz_aload_n (pc := 0) dX9_isGone_0 rfl rfl ?_
  refine gz_gk hf (fun c_1 hf => ?_)
  refine gz_gb hf (fun r_2 er_2 hf => ?_)
  refine gz_getR (pc := 1) dX9_isGone_1 fl_RX9_7 rfl (gz_shs c_1) er_2 ?_
  refine gz_iconst (v := (1 : Int32)) (pc := 4) dX9_isGone_4 rfl ?_
  refine gz_gk hf (fun c_3 hf => ?_)
  refine gz_iald (pc := 5) dX9_isGone_5 c_3 ?_
  refine gz_iload_n (pc := 6) dX9_isGone_6 rfl rfl ?_
  refine gz_cSI (av := [.int (h.2.1 r_2 (1 : Int32).toNatClampNeg), .int x1]) (st := []) (pc := 7) dX9_isGone_7 kl_RX9_142 rfl rfl (Nat.le_of_ble_eq_true rfl) (by show d + 0 + 0 + 1 ≤ d + 1; omega) (sX9_has (d := d + 0) (gz_gc hf)) (fun y_5 h_4 hf => ?_)
  refine gz_gk hf (fun c_6 hf => ?_)
  exact gz_irt (pc := 10) dX9_isGone_10 rfl (by rcases (gz_bos c_6) with h8 | h8 <;> rw [h8] <;> rfl) hf
def fX9_isGone (a0 : Nat) (x1 : Int32) (h : gz_H) : Option (Int32 × gz_H) := fX9_isGone_0 a0 x1 h
theorem sX9_isGone {G : gz_G} {d : Nat} {a0 : Nat} {x1 : Int32} {h : gz_H} {Q : Int32 → gz_H → Prop} (hf : gz_g (fX9_isGone a0 x1 h) Q) : gz_Cl G mX9_isGone (d + 1) 0 0 [.ref a0, .int x1] h (gz_qi Q) := gz_cl_of (lo := [.ref a0, .int x1]) (by decide) rfl rfl (Nat.le_of_ble_eq_true rfl) (sX9_isGone_0 a0 x1 h hf)
theorem dX9_factOf_0 : decode cX9_factOf 0 = .ok (.aload_n 0, 1) := by decide +kernel
theorem dX9_factOf_1 : decode cX9_factOf 1 = .ok (.getfield 7, 3) := by decide +kernel
theorem dX9_factOf_4 : decode cX9_factOf 4 = .ok (.bipush 8, 2) := by decide +kernel
theorem dX9_factOf_6 : decode cX9_factOf 6 = .ok (.bipush 8, 2) := by decide +kernel
theorem dX9_factOf_8 : decode cX9_factOf 8 = .ok (.iload_n 1, 1) := by decide +kernel
theorem dX9_factOf_9 : decode cX9_factOf 9 = .ok (.imul, 1) := by decide +kernel
theorem dX9_factOf_10 : decode cX9_factOf 10 = .ok (.iadd, 1) := by decide +kernel
theorem dX9_factOf_11 : decode cX9_factOf 11 = .ok (.iload_n 2, 1) := by decide +kernel
theorem dX9_factOf_12 : decode cX9_factOf 12 = .ok (.iadd, 1) := by decide +kernel
theorem dX9_factOf_13 : decode cX9_factOf 13 = .ok (.iaload, 1) := by decide +kernel
theorem dX9_factOf_14 : decode cX9_factOf 14 = .ok (.ireturn, 1) := by decide +kernel
def fX9_factOf_0  (a0 : Nat) (x1 : Int32) (x2 : Int32) (h : gz_H) : Option (Int32 × gz_H) :=
    gz_ck (gz_sh h a0 9 29) <|
    gz_br (h.2.2.2 a0 0) fun r_2 =>
    gz_ck (gz_inb h r_2 10 (((8 : Int32) + ((8 : Int32) * x1)) + x2)) <|
    some (h.2.1 r_2 (((8 : Int32) + ((8 : Int32) * x1)) + x2).toNatClampNeg, h)
set_option maxRecDepth 100000 in
set_option maxHeartbeats 1000000 in
theorem sX9_factOf_0 {G : gz_G} {d l0 s0 : Nat} {Q : Int32 → gz_H → Prop} (a0 : Nat) (x1 : Int32) (x2 : Int32) (h : gz_H) (hf : gz_g (fX9_factOf_0  a0 x1 x2 h) Q) : gz_Ok G mX9_factOf (d + 0, l0, s0, 0, 0) 0 [.ref a0, .int x1, .int x2] [] h (gz_qi Q) := by
  unfold fX9_factOf_0 at hf
  refine gz_aload_n (pc := 0) dX9_factOf_0 rfl rfl ?_
  refine gz_gk hf (fun c_1 hf => ?_)
  refine gz_gb hf (fun r_2 er_2 hf => ?_)
  refine gz_getR (pc := 1) dX9_factOf_1 fl_RX9_7 rfl (gz_shs c_1) er_2 ?_
  refine gz_bipush (v := (8 : Int32)) (pc := 4) dX9_factOf_4 rfl ?_
  refine gz_bipush (v := (8 : Int32)) (pc := 6) dX9_factOf_6 rfl ?_
  refine gz_iload_n (pc := 8) dX9_factOf_8 rfl rfl ?_
  refine gz_imul (pc := 9) dX9_factOf_9 ?_
  refine gz_iadd (pc := 10) dX9_factOf_10 ?_
  refine gz_iload_n (pc := 11) dX9_factOf_11 rfl rfl ?_
  refine gz_iadd (pc := 12) dX9_factOf_12 ?_
  refine gz_gk hf (fun c_3 hf => ?_)
  refine gz_iald (pc := 13) dX9_factOf_13 c_3 ?_
  exact gz_irt (pc := 14) dX9_factOf_14 rfl rfl hf
def fX9_factOf (a0 : Nat) (x1 : Int32) (x2 : Int32) (h : gz_H) : Option (Int32 × gz_H) := fX9_factOf_0 a0 x1 x2 h
theorem sX9_factOf {G : gz_G} {d : Nat} {a0 : Nat} {x1 : Int32} {x2 : Int32} {h : gz_H} {Q : Int32 → gz_H → Prop} (hf : gz_g (fX9_factOf a0 x1 x2 h) Q) : gz_Cl G mX9_factOf (d + 0) 0 0 [.ref a0, .int x1, .int x2] h (gz_qi Q) := gz_cl_of (lo := [.ref a0, .int x1, .int x2]) (by decide) rfl rfl (Nat.le_of_ble_eq_true rfl) (sX9_factOf_0 a0 x1 x2 h hf)
theorem dX9_heldBy_0 : decode cX9_heldBy 0 = .ok (.iconst 0, 1) := by decide +kernel
theorem dX9_heldBy_1 : decode cX9_heldBy 1 = .ok (.istore_n 2, 1) := by decide +kernel
theorem dX9_heldBy_2 : decode cX9_heldBy 2 = .ok (.iconst 0, 1) := by decide +kernel
theorem dX9_heldBy_3 : decode cX9_heldBy 3 = .ok (.istore_n 3, 1) := by decide +kernel
theorem dX9_heldBy_4 : decode cX9_heldBy 4 = .ok (.iload_n 3, 1) := by decide +kernel
theorem dX9_heldBy_5 : decode cX9_heldBy 5 = .ok (.aload_n 0, 1) := by decide +kernel
theorem dX9_heldBy_6 : decode cX9_heldBy 6 = .ok (.getfield 7, 3) := by decide +kernel
theorem dX9_heldBy_9 : decode cX9_heldBy 9 = .ok (.iconst 2, 1) := by decide +kernel
theorem dX9_heldBy_10 : decode cX9_heldBy 10 = .ok (.iload_n 1, 1) := by decide +kernel
theorem dX9_heldBy_11 : decode cX9_heldBy 11 = .ok (.iadd, 1) := by decide +kernel
theorem dX9_heldBy_12 : decode cX9_heldBy 12 = .ok (.iaload, 1) := by decide +kernel
theorem dX9_heldBy_13 : decode cX9_heldBy 13 = .ok (.if_icmp .ge 20, 3) := by decide +kernel
theorem dX9_heldBy_16 : decode cX9_heldBy 16 = .ok (.iload_n 2, 1) := by decide +kernel
theorem dX9_heldBy_17 : decode cX9_heldBy 17 = .ok (.iconst 1, 1) := by decide +kernel
theorem dX9_heldBy_18 : decode cX9_heldBy 18 = .ok (.aload_n 0, 1) := by decide +kernel
theorem dX9_heldBy_19 : decode cX9_heldBy 19 = .ok (.iload_n 1, 1) := by decide +kernel
theorem dX9_heldBy_20 : decode cX9_heldBy 20 = .ok (.iload_n 3, 1) := by decide +kernel
theorem dX9_heldBy_21 : decode cX9_heldBy 21 = .ok (.invokevirtual 161, 3) := by decide +kernel
theorem dX9_heldBy_24 : decode cX9_heldBy 24 = .ok (.ishl, 1) := by decide +kernel
theorem dX9_heldBy_25 : decode cX9_heldBy 25 = .ok (.ior, 1) := by decide +kernel
theorem dX9_heldBy_26 : decode cX9_heldBy 26 = .ok (.istore_n 2, 1) := by decide +kernel
theorem dX9_heldBy_27 : decode cX9_heldBy 27 = .ok (.iinc 3 1, 3) := by decide +kernel
theorem dX9_heldBy_30 : decode cX9_heldBy 30 = .ok (.goto (-26), 3) := by decide +kernel
theorem dX9_heldBy_33 : decode cX9_heldBy 33 = .ok (.iload_n 2, 1) := by decide +kernel
theorem dX9_heldBy_34 : decode cX9_heldBy 34 = .ok (.ireturn, 1) := by decide +kernel
def fX9_heldBy_4  : Nat → Nat → Int32 → Int32 → Int32 → gz_H → Option (Int32 × gz_H)
  | 0, _, _, _, _, _ => none
  | n + 1, a0, x1, x2, x3, h =>
    gz_ck (gz_sh h a0 9 29) <|
    gz_br (h.2.2.2 a0 0) fun r_2 =>
    gz_ck (gz_inb h r_2 10 ((2 : Int32) + x1)) <|
    if (h.2.1 r_2 ((2 : Int32) + x1).toNatClampNeg) ≤ x3 then (
     some (x2, h)
    ) else (
     gz_b2 (fX9_factOf a0 x1 x3 h) fun y_6 h_5 =>
     fX9_heldBy_4 n a0 x1 (x2 ||| ((1 : Int32) <<< (y_6 &&& 31))) (x3 + 1) h_5
    )
set_option maxRecDepth 100000 in
set_option maxHeartbeats 1000000 in
theorem sX9_heldBy_4 {G : gz_G} {d l0 s0 : Nat} {Q : Int32 → gz_H → Prop} : ∀ (n : Nat) (a0 : Nat) (x1 : Int32) (x2 : Int32) (x3 : Int32) (h : gz_H), gz_g (fX9_heldBy_4  n a0 x1 x2 x3 h) Q → gz_Ok G mX9_heldBy (d + 1, l0, s0, 0, 0) 4 [.ref a0, .int x1, .int x2, .int x3] [] h (gz_qi Q) := by
  intro n
  induction n with
  | zero => intro a0 x1 x2 x3 h hf; exact False.elim hf
  | succ n ih =>
    intro a0 x1 x2 x3 h hf
    rw [fX9_heldBy_4] at hf
    refine gz_iload_n (pc := 4) dX9_heldBy_4 rfl rfl ?_
    refine gz_aload_n (pc := 5) dX9_heldBy_5 rfl rfl ?_
    refine gz_gk hf (fun c_1 hf => ?_)
    refine gz_gb hf (fun r_2 er_2 hf => ?_)
    refine gz_getR (pc := 6) dX9_heldBy_6 fl_RX9_7 rfl (gz_shs c_1) er_2 ?_
    refine gz_iconst (v := (2 : Int32)) (pc := 9) dX9_heldBy_9 rfl ?_
    refine gz_iload_n (pc := 10) dX9_heldBy_10 rfl rfl ?_
    refine gz_iadd (pc := 11) dX9_heldBy_11 ?_
    refine gz_gk hf (fun c_3 hf => ?_)
    refine gz_iald (pc := 12) dX9_heldBy_12 c_3 ?_
    refine gz_icmp_ge (tgt := 33) (pc := 13) dX9_heldBy_13 rfl (fun c_4 => ?_) (fun c_4 => ?_)
    · have hf := gz_gT hf c_4
      refine gz_iload_n (pc := 33) dX9_heldBy_33 rfl rfl ?_
      exact gz_irt (pc := 34) dX9_heldBy_34 rfl rfl hf
    · have hf := gz_gF hf c_4
      refine gz_iload_n (pc := 16) dX9_heldBy_16 rfl rfl ?_
      refine gz_iconst (v := (1 : Int32)) (pc := 17) dX9_heldBy_17 rfl ?_
      refine gz_aload_n (pc := 18) dX9_heldBy_18 rfl rfl ?_
      refine gz_iload_n (pc := 19) dX9_heldBy_19 rfl rfl ?_
      refine gz_iload_n (pc := 20) dX9_heldBy_20 rfl rfl ?_
      refine gz_cVI (av := [.int x1, .int x3]) (st := [.int (1 : Int32), .int x2]) (pc := 21) dX9_heldBy_21 kl_RX9_161 rfl (gz_shs c_1) rfl rfl (Nat.le_of_ble_eq_true rfl) (by show d + 0 + 0 + 1 ≤ d + 1; omega) (sX9_factOf (d := d + 0) (gz_gc hf)) (fun y_6 h_5 hf => ?_)
      refine gz_ishl (pc := 24) dX9_heldBy_24 ?_
      refine gz_ior (pc := 25) dX9_heldBy_25 ?_
      refine gz_istore_n (lv := [.ref a0, .int x1, .int (x2 ||| ((1 : Int32) <<< (y_6 &&& 31))), .int x3]) (pc := 26) dX9_heldBy_26 rfl (by decide) rfl ?_
      refine gz_iinc (v := x3 + 1) (lv := [.ref a0, .int x1, .int (x2 ||| ((1 : Int32) <<< (y_6 &&& 31))), .int (x3 + 1)]) (pc := 27) dX9_heldBy_27 rfl rfl (by decide) rfl ?_
      refine gz_goto (tgt := 4) (pc := 30) dX9_heldBy_30 rfl ?_
      exact ih a0 x1 (x2 ||| ((1 : Int32) <<< (y_6 &&& 31))) (x3 + 1) h_5 hf
def fX9_heldBy_0  (a0 : Nat) (x1 : Int32) (h : gz_H) : Option (Int32 × gz_H) :=
    fX9_heldBy_4 gz_fu a0 x1 (0 : Int32) (0 : Int32) h
set_option maxRecDepth 100000 in
set_option maxHeartbeats 1000000 in
theorem sX9_heldBy_0 {G : gz_G} {d l0 s0 : Nat} {Q : Int32 → gz_H → Prop} (a0 : Nat) (x1 : Int32) (h : gz_H) (hf : gz_g (fX9_heldBy_0  a0 x1 h) Q) : gz_Ok G mX9_heldBy (d + 1, l0, s0, 0, 0) 0 [.ref a0, .int x1, .retAddr 0, .retAddr 0] [] h (gz_qi Q) := by
  unfold fX9_heldBy_0 at hf
  refine gz_iconst (v := (0 : Int32)) (pc := 0) dX9_heldBy_0 rfl ?_
  refine gz_istore_n (lv := [.ref a0, .int x1, .int (0 : Int32), .retAddr 0]) (pc := 1) dX9_heldBy_1 rfl (by decide) rfl ?_
  refine gz_iconst (v := (0 : Int32)) (pc := 2) dX9_heldBy_2 rfl ?_
  refine gz_istore_n (lv := [.ref a0, .int x1, .int (0 : Int32), .int (0 : Int32)]) (pc := 3) dX9_heldBy_3 rfl (by decide) rfl ?_
  exact sX9_heldBy_4 gz_fu a0 x1 (0 : Int32) (0 : Int32) h hf
def fX9_heldBy (a0 : Nat) (x1 : Int32) (h : gz_H) : Option (Int32 × gz_H) := fX9_heldBy_0 a0 x1 h
theorem sX9_heldBy {G : gz_G} {d : Nat} {a0 : Nat} {x1 : Int32} {h : gz_H} {Q : Int32 → gz_H → Prop} (hf : gz_g (fX9_heldBy a0 x1 h) Q) : gz_Cl G mX9_heldBy (d + 1) 0 0 [.ref a0, .int x1] h (gz_qi Q) := gz_cl_of (lo := [.ref a0, .int x1, .retAddr 0, .retAddr 0]) (by decide) rfl rfl (Nat.le_of_ble_eq_true rfl) (sX9_heldBy_0 a0 x1 h hf)
theorem dX9_layHeld_0 : decode cX9_layHeld 0 = .ok (.aload_n 0, 1) := by decide +kernel
theorem dX9_layHeld_1 : decode cX9_layHeld 1 = .ok (.aload_n 0, 1) := by decide +kernel
theorem dX9_layHeld_2 : decode cX9_layHeld 2 = .ok (.getfield 7, 3) := by decide +kernel
theorem dX9_layHeld_5 : decode cX9_layHeld 5 = .ok (.iconst 2, 1) := by decide +kernel
theorem dX9_layHeld_6 : decode cX9_layHeld 6 = .ok (.iload_n 1, 1) := by decide +kernel
theorem dX9_layHeld_7 : decode cX9_layHeld 7 = .ok (.iadd, 1) := by decide +kernel
theorem dX9_layHeld_8 : decode cX9_layHeld 8 = .ok (.iaload, 1) := by decide +kernel
theorem dX9_layHeld_9 : decode cX9_layHeld 9 = .ok (.putfield 164, 3) := by decide +kernel
theorem dX9_layHeld_12 : decode cX9_layHeld 12 = .ok (.iconst 0, 1) := by decide +kernel
theorem dX9_layHeld_13 : decode cX9_layHeld 13 = .ok (.istore_n 2, 1) := by decide +kernel
theorem dX9_layHeld_14 : decode cX9_layHeld 14 = .ok (.iload_n 2, 1) := by decide +kernel
theorem dX9_layHeld_15 : decode cX9_layHeld 15 = .ok (.aload_n 0, 1) := by decide +kernel
theorem dX9_layHeld_16 : decode cX9_layHeld 16 = .ok (.getfield 164, 3) := by decide +kernel
theorem dX9_layHeld_19 : decode cX9_layHeld 19 = .ok (.if_icmp .ge 21, 3) := by decide +kernel
theorem dX9_layHeld_22 : decode cX9_layHeld 22 = .ok (.aload_n 0, 1) := by decide +kernel
theorem dX9_layHeld_23 : decode cX9_layHeld 23 = .ok (.getfield 56, 3) := by decide +kernel
theorem dX9_layHeld_26 : decode cX9_layHeld 26 = .ok (.iload_n 2, 1) := by decide +kernel
theorem dX9_layHeld_27 : decode cX9_layHeld 27 = .ok (.aload_n 0, 1) := by decide +kernel
theorem dX9_layHeld_28 : decode cX9_layHeld 28 = .ok (.iload_n 1, 1) := by decide +kernel
theorem dX9_layHeld_29 : decode cX9_layHeld 29 = .ok (.iload_n 2, 1) := by decide +kernel
theorem dX9_layHeld_30 : decode cX9_layHeld 30 = .ok (.invokevirtual 161, 3) := by decide +kernel
theorem dX9_layHeld_33 : decode cX9_layHeld 33 = .ok (.iastore, 1) := by decide +kernel
theorem dX9_layHeld_34 : decode cX9_layHeld 34 = .ok (.iinc 2 1, 3) := by decide +kernel
theorem dX9_layHeld_37 : decode cX9_layHeld 37 = .ok (.goto (-23), 3) := by decide +kernel
theorem dX9_layHeld_40 : decode cX9_layHeld 40 = .ok (.return_, 1) := by decide +kernel
def fX9_layHeld_14  : Nat → Nat → Int32 → Int32 → gz_H → Option (Unit × gz_H)
  | 0, _, _, _, _ => none
  | n + 1, a0, x1, x2, h =>
    gz_ck (gz_sh h a0 9 29) <|
    if (h.2.1 a0 25) ≤ x2 then (
     some ((), h)
    ) else (
     gz_br (h.2.2.2 a0 26) fun r_3 =>
     gz_b2 (fX9_factOf a0 x1 x2 h) fun y_5 h_4 =>
     gz_ck (gz_inb h_4 r_3 10 x2) <|
     gz_lt (uI h_4 r_3 x2.toNatClampNeg y_5) fun h_7 =>
     fX9_layHeld_14 n a0 x1 (x2 + 1) h_7
    )
set_option maxRecDepth 100000 in
set_option maxHeartbeats 1000000 in
theorem sX9_layHeld_14 {G : gz_G} {d l0 s0 : Nat} {Q : Unit → gz_H → Prop} : ∀ (n : Nat) (a0 : Nat) (x1 : Int32) (x2 : Int32) (h : gz_H), gz_g (fX9_layHeld_14  n a0 x1 x2 h) Q → gz_Ok G mX9_layHeld (d + 1, l0, s0, 0, 0) 14 [.ref a0, .int x1, .int x2] [] h (gz_qu Q) := by
  intro n
  induction n with
  | zero => intro a0 x1 x2 h hf; exact False.elim hf
  | succ n ih =>
    intro a0 x1 x2 h hf
    rw [fX9_layHeld_14] at hf
    refine gz_iload_n (pc := 14) dX9_layHeld_14 rfl rfl ?_
    refine gz_aload_n (pc := 15) dX9_layHeld_15 rfl rfl ?_
    refine gz_gk hf (fun c_1 hf => ?_)
    refine gz_getI (pc := 16) dX9_layHeld_16 fl_RX9_164 rfl (gz_shs c_1) ?_
    refine gz_icmp_ge (tgt := 40) (pc := 19) dX9_layHeld_19 rfl (fun c_2 => ?_) (fun c_2 => ?_)
    · have hf := gz_gT hf c_2
      exact gz_uret (pc := 40) dX9_layHeld_40 rfl hf
    · have hf := gz_gF hf c_2
      refine gz_aload_n (pc := 22) dX9_layHeld_22 rfl rfl ?_
      refine gz_gb hf (fun r_3 er_3 hf => ?_)
      refine gz_getR (pc := 23) dX9_layHeld_23 fl_RX9_56 rfl (gz_shs c_1) er_3 ?_
      refine gz_iload_n (pc := 26) dX9_layHeld_26 rfl rfl ?_
      refine gz_aload_n (pc := 27) dX9_layHeld_27 rfl rfl ?_
      refine gz_iload_n (pc := 28) dX9_layHeld_28 rfl rfl ?_
      refine gz_iload_n (pc := 29) dX9_layHeld_29 rfl rfl ?_
      refine gz_cVI (av := [.int x1, .int x2]) (st := [.int x2, .ref r_3]) (pc := 30) dX9_layHeld_30 kl_RX9_161 rfl (gz_shs c_1) rfl rfl (Nat.le_of_ble_eq_true rfl) (by show d + 0 + 0 + 1 ≤ d + 1; omega) (sX9_factOf (d := d + 0) (gz_gc hf)) (fun y_5 h_4 hf => ?_)
      refine gz_gk hf (fun c_6 hf => ?_)
      refine gz_iast (pc := 33) dX9_layHeld_33 c_6 ?_
      refine gz_nmH (fun h_7 eh_7 => ?_)
      have hf := gz_gl eh_7 hf
      refine gz_iinc (v := x2 + 1) (lv := [.ref a0, .int x1, .int (x2 + 1)]) (pc := 34) dX9_layHeld_34 rfl rfl (by decide) rfl ?_
      refine gz_goto (tgt := 14) (pc := 37) dX9_layHeld_37 rfl ?_
      exact ih a0 x1 (x2 + 1) h_7 hf
def fX9_layHeld_0  (a0 : Nat) (x1 : Int32) (h : gz_H) : Option (Unit × gz_H) :=
    gz_ck (gz_sh h a0 9 29) <|
    gz_br (h.2.2.2 a0 0) fun r_2 =>
    gz_ck (gz_inb h r_2 10 ((2 : Int32) + x1)) <|
    gz_lt (uI h a0 25 (h.2.1 r_2 ((2 : Int32) + x1).toNatClampNeg)) fun h_4 =>
    fX9_layHeld_14 gz_fu a0 x1 (0 : Int32) h_4
set_option maxRecDepth 100000 in
set_option maxHeartbeats 1000000 in
theorem sX9_layHeld_0 {G : gz_G} {d l0 s0 : Nat} {Q : Unit → gz_H → Prop} (a0 : Nat) (x1 : Int32) (h : gz_H) (hf : gz_g (fX9_layHeld_0  a0 x1 h) Q) : gz_Ok G mX9_layHeld (d + 1, l0, s0, 0, 0) 0 [.ref a0, .int x1, .retAddr 0] [] h (gz_qu Q) := by
  unfold fX9_layHeld_0 at hf
  refine gz_aload_n (pc := 0) dX9_layHeld_0 rfl rfl ?_
  refine gz_aload_n (pc := 1) dX9_layHeld_1 rfl rfl ?_
  refine gz_gk hf (fun c_1 hf => ?_)
  refine gz_gb hf (fun r_2 er_2 hf => ?_)
  refine gz_getR (pc := 2) dX9_layHeld_2 fl_RX9_7 rfl (gz_shs c_1) er_2 ?_
  refine gz_iconst (v := (2 : Int32)) (pc := 5) dX9_layHeld_5 rfl ?_
  refine gz_iload_n (pc := 6) dX9_layHeld_6 rfl rfl ?_
  refine gz_iadd (pc := 7) dX9_layHeld_7 ?_
  refine gz_gk hf (fun c_3 hf => ?_)
  refine gz_iald (pc := 8) dX9_layHeld_8 c_3 ?_
  refine gz_putI (pc := 9) dX9_layHeld_9 fw_X9_layHeld_164 rfl rfl rfl (gz_shs c_1) ?_
  refine gz_nmH (fun h_4 eh_4 => ?_)
  have hf := gz_gl eh_4 hf
  refine gz_iconst (v := (0 : Int32)) (pc := 12) dX9_layHeld_12 rfl ?_
  refine gz_istore_n (lv := [.ref a0, .int x1, .int (0 : Int32)]) (pc := 13) dX9_layHeld_13 rfl (by decide) rfl ?_
  exact sX9_layHeld_14 gz_fu a0 x1 (0 : Int32) h_4 hf
def fX9_layHeld (a0 : Nat) (x1 : Int32) (h : gz_H) : Option (Unit × gz_H) := fX9_layHeld_0 a0 x1 h
theorem sX9_layHeld {G : gz_G} {d : Nat} {a0 : Nat} {x1 : Int32} {h : gz_H} {Q : Unit → gz_H → Prop} (hf : gz_g (fX9_layHeld a0 x1 h) Q) : gz_Cl G mX9_layHeld (d + 1) 0 0 [.ref a0, .int x1] h (gz_qu Q) := gz_cl_of (lo := [.ref a0, .int x1, .retAddr 0]) (by decide) rfl rfl (Nat.le_of_ble_eq_true rfl) (sX9_layHeld_0 a0 x1 h hf)
theorem dX9_isHen_0 : decode cX9_isHen 0 = .ok (.iload_n 0, 1) := by decide +kernel
theorem dX9_isHen_1 : decode cX9_isHen 1 = .ok (.iconst 3, 1) := by decide +kernel
theorem dX9_isHen_2 : decode cX9_isHen 2 = .ok (.if_icmp .eq 8, 3) := by decide +kernel
theorem dX9_isHen_5 : decode cX9_isHen 5 = .ok (.iload_n 0, 1) := by decide +kernel
theorem dX9_isHen_6 : decode cX9_isHen 6 = .ok (.iconst 4, 1) := by decide +kernel
theorem dX9_isHen_7 : decode cX9_isHen 7 = .ok (.if_icmp .ne 7, 3) := by decide +kernel
theorem dX9_isHen_10 : decode cX9_isHen 10 = .ok (.iconst 1, 1) := by decide +kernel
theorem dX9_isHen_11 : decode cX9_isHen 11 = .ok (.goto 4, 3) := by decide +kernel
theorem dX9_isHen_14 : decode cX9_isHen 14 = .ok (.iconst 0, 1) := by decide +kernel
theorem dX9_isHen_15 : decode cX9_isHen 15 = .ok (.ireturn, 1) := by decide +kernel
def fX9_isHen_10   (h : gz_H) : Option (Int32 × gz_H) :=
    some ((1 : Int32), h)
set_option maxRecDepth 100000 in
set_option maxHeartbeats 1000000 in
theorem sX9_isHen_10 {G : gz_G} {d l0 s0 : Nat} {Q : Int32 → gz_H → Prop}  (h : gz_H) (hf : gz_g (fX9_isHen_10   h) Q) : gz_Ok G mX9_isHen (d + 0, l0, s0, 0, 0) 10 [.retAddr 0] [] h (gz_qi Q) := by
  unfold fX9_isHen_10 at hf
  refine gz_iconst (v := (1 : Int32)) (pc := 10) dX9_isHen_10 rfl ?_
  refine gz_goto (tgt := 15) (pc := 11) dX9_isHen_11 rfl ?_
  exact gz_irt (pc := 15) dX9_isHen_15 rfl rfl hf
def fX9_isHen_0  (x0 : Int32) (h : gz_H) : Option (Int32 × gz_H) :=
    if x0 = (3 : Int32) then (
     fX9_isHen_10 h
    ) else (
     if x0 = (4 : Int32) then (
      fX9_isHen_10 h
     ) else (
      some ((0 : Int32), h)
     )
    )
set_option maxRecDepth 100000 in
set_option maxHeartbeats 1000000 in
theorem sX9_isHen_0 {G : gz_G} {d l0 s0 : Nat} {Q : Int32 → gz_H → Prop} (x0 : Int32) (h : gz_H) (hf : gz_g (fX9_isHen_0  x0 h) Q) : gz_Ok G mX9_isHen (d + 0, l0, s0, 0, 0) 0 [.int x0] [] h (gz_qi Q) := by
  unfold fX9_isHen_0 at hf
  refine gz_iload_n (pc := 0) dX9_isHen_0 rfl rfl ?_
  refine gz_iconst (v := (3 : Int32)) (pc := 1) dX9_isHen_1 rfl ?_
  refine gz_icmp_eq (tgt := 10) (pc := 2) dX9_isHen_2 rfl (fun c_1 => ?_) (fun c_1 => ?_)
  · have hf := gz_gT hf c_1
    refine gz_fg (lv := [.retAddr 0]) ⟨Or.inl rfl, trivial⟩ ?_
    exact sX9_isHen_10 h hf
  · have hf := gz_gF hf c_1
    refine gz_iload_n (pc := 5) dX9_isHen_5 rfl rfl ?_
    refine gz_iconst (v := (4 : Int32)) (pc := 6) dX9_isHen_6 rfl ?_
    refine gz_icmp_ne (tgt := 14) (pc := 7) dX9_isHen_7 rfl (fun c_2 => ?_) (fun c_2 => ?_)
    · have hf := gz_gF hf c_2
      refine gz_iconst (v := (0 : Int32)) (pc := 14) dX9_isHen_14 rfl ?_
      exact gz_irt (pc := 15) dX9_isHen_15 rfl rfl hf
    · have hf := gz_gT hf c_2
      refine gz_fg (lv := [.retAddr 0]) ⟨Or.inl rfl, trivial⟩ ?_
      exact sX9_isHen_10 h hf
def fX9_isHen (x0 : Int32) (h : gz_H) : Option (Int32 × gz_H) := fX9_isHen_0 x0 h
theorem sX9_isHen {G : gz_G} {d : Nat} {x0 : Int32} {h : gz_H} {Q : Int32 → gz_H → Prop} (hf : gz_g (fX9_isHen x0 h) Q) : gz_Cl G mX9_isHen (d + 0) 0 0 [.int x0] h (gz_qi Q) := gz_cl_of (lo := [.int x0]) (by decide) rfl rfl (Nat.le_of_ble_eq_true rfl) (sX9_isHen_0 x0 h hf)
theorem dX9_isGander_0 : decode cX9_isGander 0 = .ok (.iload_n 0, 1) := by decide +kernel
theorem dX9_isGander_1 : decode cX9_isGander 1 = .ok (.iconst 1, 1) := by decide +kernel
theorem dX9_isGander_2 : decode cX9_isGander 2 = .ok (.if_icmp .eq 8, 3) := by decide +kernel
theorem dX9_isGander_5 : decode cX9_isGander 5 = .ok (.iload_n 0, 1) := by decide +kernel
theorem dX9_isGander_6 : decode cX9_isGander 6 = .ok (.iconst 5, 1) := by decide +kernel
theorem dX9_isGander_7 : decode cX9_isGander 7 = .ok (.if_icmp .ne 7, 3) := by decide +kernel
theorem dX9_isGander_10 : decode cX9_isGander 10 = .ok (.iconst 1, 1) := by decide +kernel
theorem dX9_isGander_11 : decode cX9_isGander 11 = .ok (.goto 4, 3) := by decide +kernel
theorem dX9_isGander_14 : decode cX9_isGander 14 = .ok (.iconst 0, 1) := by decide +kernel
theorem dX9_isGander_15 : decode cX9_isGander 15 = .ok (.ireturn, 1) := by decide +kernel
def fX9_isGander_10   (h : gz_H) : Option (Int32 × gz_H) :=
    some ((1 : Int32), h)
set_option maxRecDepth 100000 in
set_option maxHeartbeats 1000000 in
theorem sX9_isGander_10 {G : gz_G} {d l0 s0 : Nat} {Q : Int32 → gz_H → Prop}  (h : gz_H) (hf : gz_g (fX9_isGander_10   h) Q) : gz_Ok G mX9_isGander (d + 0, l0, s0, 0, 0) 10 [.retAddr 0] [] h (gz_qi Q) := by
  unfold fX9_isGander_10 at hf
  refine gz_iconst (v := (1 : Int32)) (pc := 10) dX9_isGander_10 rfl ?_
  refine gz_goto (tgt := 15) (pc := 11) dX9_isGander_11 rfl ?_
  exact gz_irt (pc := 15) dX9_isGander_15 rfl rfl hf
def fX9_isGander_0  (x0 : Int32) (h : gz_H) : Option (Int32 × gz_H) :=
    if x0 = (1 : Int32) then (
     fX9_isGander_10 h
    ) else (
     if x0 = (5 : Int32) then (
      fX9_isGander_10 h
     ) else (
      some ((0 : Int32), h)
     )
    )
set_option maxRecDepth 100000 in
set_option maxHeartbeats 1000000 in
theorem sX9_isGander_0 {G : gz_G} {d l0 s0 : Nat} {Q : Int32 → gz_H → Prop} (x0 : Int32) (h : gz_H) (hf : gz_g (fX9_isGander_0  x0 h) Q) : gz_Ok G mX9_isGander (d + 0, l0, s0, 0, 0) 0 [.int x0] [] h (gz_qi Q) := by
  unfold fX9_isGander_0 at hf
  refine gz_iload_n (pc := 0) dX9_isGander_0 rfl rfl ?_
  refine gz_iconst (v := (1 : Int32)) (pc := 1) dX9_isGander_1 rfl ?_
  refine gz_icmp_eq (tgt := 10) (pc := 2) dX9_isGander_2 rfl (fun c_1 => ?_) (fun c_1 => ?_)
  · have hf := gz_gT hf c_1
    refine gz_fg (lv := [.retAddr 0]) ⟨Or.inl rfl, trivial⟩ ?_
    exact sX9_isGander_10 h hf
  · have hf := gz_gF hf c_1
    refine gz_iload_n (pc := 5) dX9_isGander_5 rfl rfl ?_
    refine gz_iconst (v := (5 : Int32)) (pc := 6) dX9_isGander_6 rfl ?_
    refine gz_icmp_ne (tgt := 14) (pc := 7) dX9_isGander_7 rfl (fun c_2 => ?_) (fun c_2 => ?_)
    · have hf := gz_gF hf c_2
      refine gz_iconst (v := (0 : Int32)) (pc := 14) dX9_isGander_14 rfl ?_
      exact gz_irt (pc := 15) dX9_isGander_15 rfl rfl hf
    · have hf := gz_gT hf c_2
      refine gz_fg (lv := [.retAddr 0]) ⟨Or.inl rfl, trivial⟩ ?_
      exact sX9_isGander_10 h hf
def fX9_isGander (x0 : Int32) (h : gz_H) : Option (Int32 × gz_H) := fX9_isGander_0 x0 h
theorem sX9_isGander {G : gz_G} {d : Nat} {x0 : Int32} {h : gz_H} {Q : Int32 → gz_H → Prop} (hf : gz_g (fX9_isGander x0 h) Q) : gz_Cl G mX9_isGander (d + 0) 0 0 [.int x0] h (gz_qi Q) := gz_cl_of (lo := [.int x0]) (by decide) rfl rfl (Nat.le_of_ble_eq_true rfl) (sX9_isGander_0 x0 h hf)
