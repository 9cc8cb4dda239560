theorem dX5_readVillage_0 : decode cX5_readVillage 0 = .ok (.aload_n 0, 1) := by decide +kernel
theorem dX5_readVillage_1 : decode cX5_readVillage 1 = .ok (.getfield 19, 3) := by decide +kernel
theorem dX5_readVillage_4 : decode cX5_readVillage 4 = .ok (.aload_n 0, 1) := by decide +kernel
theorem dX5_readVillage_5 : decode cX5_readVillage 5 = .ok (.getfield 15, 3) := by decide +kernel
theorem dX5_readVillage_8 : decode cX5_readVillage 8 = .ok (.if_icmp .ge 17, 3) := by decide +kernel
theorem dX5_readVillage_11 : decode cX5_readVillage 11 = .ok (.aload_n 0, 1) := by decide +kernel
theorem dX5_readVillage_12 : decode cX5_readVillage 12 = .ok (.getfield 9, 3) := by decide +kernel
theorem dX5_readVillage_15 : decode cX5_readVillage 15 = .ok (.aload_n 0, 1) := by decide +kernel
theorem dX5_readVillage_16 : decode cX5_readVillage 16 = .ok (.getfield 19, 3) := by decide +kernel
theorem dX5_readVillage_19 : decode cX5_readVillage 19 = .ok (.iaload, 1) := by decide +kernel
theorem dX5_readVillage_20 : decode cX5_readVillage 20 = .ok (.bipush 118, 2) := by decide +kernel
theorem dX5_readVillage_22 : decode cX5_readVillage 22 = .ok (.if_icmp .eq 5, 3) := by decide +kernel
theorem dX5_readVillage_25 : decode cX5_readVillage 25 = .ok (.iconst 0, 1) := by decide +kernel
theorem dX5_readVillage_26 : decode cX5_readVillage 26 = .ok (.ireturn, 1) := by decide +kernel
theorem dX5_readVillage_27 : decode cX5_readVillage 27 = .ok (.aload_n 0, 1) := by decide +kernel
theorem dX5_readVillage_28 : decode cX5_readVillage 28 = .ok (.dup, 1) := by decide +kernel
theorem dX5_readVillage_29 : decode cX5_readVillage 29 = .ok (.getfield 19, 3) := by decide +kernel
theorem dX5_readVillage_32 : decode cX5_readVillage 32 = .ok (.iconst 1, 1) := by decide +kernel
theorem dX5_readVillage_33 : decode cX5_readVillage 33 = .ok (.iadd, 1) := by decide +kernel
theorem dX5_readVillage_34 : decode cX5_readVillage 34 = .ok (.putfield 19, 3) := by decide +kernel
theorem dX5_readVillage_37 : decode cX5_readVillage 37 = .ok (.aload_n 0, 1) := by decide +kernel
theorem dX5_readVillage_38 : decode cX5_readVillage 38 = .ok (.getfield 19, 3) := by decide +kernel
theorem dX5_readVillage_41 : decode cX5_readVillage 41 = .ok (.aload_n 0, 1) := by decide +kernel
theorem dX5_readVillage_42 : decode cX5_readVillage 42 = .ok (.getfield 15, 3) := by decide +kernel
theorem dX5_readVillage_45 : decode cX5_readVillage 45 = .ok (.if_icmp .ge 74, 3) := by decide +kernel
theorem dX5_readVillage_48 : decode cX5_readVillage 48 = .ok (.aload_n 0, 1) := by decide +kernel
theorem dX5_readVillage_49 : decode cX5_readVillage 49 = .ok (.invokevirtual 42, 3) := by decide +kernel
theorem dX5_readVillage_52 : decode cX5_readVillage 52 = .ok (.bipush (-9), 2) := by decide +kernel
theorem dX5_readVillage_54 : decode cX5_readVillage 54 = .ok (.if_icmp .eq 65, 3) := by decide +kernel
theorem dX5_readVillage_57 : decode cX5_readVillage 57 = .ok (.aload_n 0, 1) := by decide +kernel
theorem dX5_readVillage_58 : decode cX5_readVillage 58 = .ok (.invokevirtual 42, 3) := by decide +kernel
theorem dX5_readVillage_61 : decode cX5_readVillage 61 = .ok (.bipush 6, 2) := by decide +kernel
theorem dX5_readVillage_63 : decode cX5_readVillage 63 = .ok (.if_icmp .ge 15, 3) := by decide +kernel
theorem dX5_readVillage_66 : decode cX5_readVillage 66 = .ok (.aload_n 0, 1) := by decide +kernel
theorem dX5_readVillage_67 : decode cX5_readVillage 67 = .ok (.getfield 22, 3) := by decide +kernel
theorem dX5_readVillage_70 : decode cX5_readVillage 70 = .ok (.getfield 26, 3) := by decide +kernel
theorem dX5_readVillage_73 : decode cX5_readVillage 73 = .ok (.bipush 8, 2) := by decide +kernel
theorem dX5_readVillage_75 : decode cX5_readVillage 75 = .ok (.if_icmp .lt 5, 3) := by decide +kernel
theorem dX5_readVillage_78 : decode cX5_readVillage 78 = .ok (.iconst 0, 1) := by decide +kernel
theorem dX5_readVillage_79 : decode cX5_readVillage 79 = .ok (.ireturn, 1) := by decide +kernel
theorem dX5_readVillage_80 : decode cX5_readVillage 80 = .ok (.aload_n 0, 1) := by decide +kernel
theorem dX5_readVillage_81 : decode cX5_readVillage 81 = .ok (.getfield 22, 3) := by decide +kernel
theorem dX5_readVillage_84 : decode cX5_readVillage 84 = .ok (.getfield 46, 3) := by decide +kernel
theorem dX5_readVillage_87 : decode cX5_readVillage 87 = .ok (.aload_n 0, 1) := by decide +kernel
theorem dX5_readVillage_88 : decode cX5_readVillage 88 = .ok (.getfield 22, 3) := by decide +kernel
theorem dX5_readVillage_91 : decode cX5_readVillage 91 = .ok (.dup, 1) := by decide +kernel
theorem dX5_readVillage_92 : decode cX5_readVillage 92 = .ok (.getfield 26, 3) := by decide +kernel
theorem dX5_readVillage_95 : decode cX5_readVillage 95 = .ok (.dup_x1, 1) := by decide +kernel
theorem dX5_readVillage_96 : decode cX5_readVillage 96 = .ok (.iconst 1, 1) := by decide +kernel
theorem dX5_readVillage_97 : decode cX5_readVillage 97 = .ok (.iadd, 1) := by decide +kernel
theorem dX5_readVillage_98 : decode cX5_readVillage 98 = .ok (.putfield 26, 3) := by decide +kernel
theorem dX5_readVillage_101 : decode cX5_readVillage 101 = .ok (.aload_n 0, 1) := by decide +kernel
theorem dX5_readVillage_102 : decode cX5_readVillage 102 = .ok (.invokevirtual 42, 3) := by decide +kernel
theorem dX5_readVillage_105 : decode cX5_readVillage 105 = .ok (.iastore, 1) := by decide +kernel
theorem dX5_readVillage_106 : decode cX5_readVillage 106 = .ok (.aload_n 0, 1) := by decide +kernel
theorem dX5_readVillage_107 : decode cX5_readVillage 107 = .ok (.dup, 1) := by decide +kernel
theorem dX5_readVillage_108 : decode cX5_readVillage 108 = .ok (.getfield 19, 3) := by decide +kernel
theorem dX5_readVillage_111 : decode cX5_readVillage 111 = .ok (.iconst 1, 1) := by decide +kernel
theorem dX5_readVillage_112 : decode cX5_readVillage 112 = .ok (.iadd, 1) := by decide +kernel
theorem dX5_readVillage_113 : decode cX5_readVillage 113 = .ok (.putfield 19, 3) := by decide +kernel
theorem dX5_readVillage_116 : decode cX5_readVillage 116 = .ok (.goto (-79), 3) := by decide +kernel
theorem dX5_readVillage_119 : decode cX5_readVillage 119 = .ok (.aload_n 0, 1) := by decide +kernel
theorem dX5_readVillage_120 : decode cX5_readVillage 120 = .ok (.getfield 22, 3) := by decide +kernel
theorem dX5_readVillage_123 : decode cX5_readVillage 123 = .ok (.getfield 26, 3) := by decide +kernel
theorem dX5_readVillage_126 : decode cX5_readVillage 126 = .ok (.ifCond .le 7, 3) := by decide +kernel
theorem dX5_readVillage_129 : decode cX5_readVillage 129 = .ok (.iconst 1, 1) := by decide +kernel
theorem dX5_readVillage_130 : decode cX5_readVillage 130 = .ok (.goto 4, 3) := by decide +kernel
theorem dX5_readVillage_133 : decode cX5_readVillage 133 = .ok (.iconst 0, 1) := by decide +kernel
theorem dX5_readVillage_134 : decode cX5_readVillage 134 = .ok (.ireturn, 1) := by decide +kernel
def fX5_readVillage_119  (a0 : Nat) (h : gz_H) : Option (Int32 × gz_H) :=
    gz_ck (gz_sh h a0 5 4) <|
    gz_br (h.2.2.2 a0 3) fun r_2 =>
    gz_ck (gz_sh h r_2 1 4) <|
    if (h.2.1 r_2 2) ≤ 0 then (
     some ((0 : Int32), h)
    ) else (
     some ((1 : Int32), h)
    )
set_option maxRecDepth 100000 in
set_option maxHeartbeats 1000000 in
theorem sX5_readVillage_119 {G : gz_G} {d l0 s0 : Nat} {Q : Int32 → gz_H → Prop} (a0 : Nat) (h : gz_H) (hf : gz_g (fX5_readVillage_119  a0 h) Q) : gz_Ok G mX5_readVillage (d + 1, l0, s0, 0, 0) 119 [.ref a0] [] h (gz_qi Q) := by
  unfold fX5_readVillage_119 at hf
  refine gz_aload_n (pc := 119) dX5_readVillage_119 rfl rfl ?_
  refine gz_gk hf (fun c_1 hf => ?_)
  refine gz_gb hf (fun r_2 er_2 hf => ?_)
  refine gz_getR (pc := 120) dX5_readVillage_120 fl_RX5_22 rfl (gz_shs c_1) er_2 ?_
  refine gz_gk hf (fun c_3 hf => ?_)
  refine gz_getI (pc := 123) dX5_readVillage_123 fl_RX5_26 rfl (gz_shs c_3) ?_
  refine gz_if_le (tgt := 133) (pc := 126) dX5_readVillage_126 rfl (fun c_4 => ?_) (fun c_4 => ?_)
  · have hf := gz_gT hf c_4
    refine gz_iconst (v := (0 : Int32)) (pc := 133) dX5_readVillage_133 rfl ?_
    exact gz_irt (pc := 134) dX5_readVillage_134 rfl rfl hf
  · have hf := gz_gF hf c_4
    refine gz_iconst (v := (1 : Int32)) (pc := 129) dX5_readVillage_129 rfl ?_
    refine gz_goto (tgt := 134) (pc := 130) dX5_readVillage_130 rfl ?_
    exact gz_irt (pc := 134) dX5_readVillage_134 rfl rfl hf
def fX5_readVillage_37  : Nat → Nat → gz_H → Option (Int32 × gz_H)
  | 0, _, _ => none
  | n + 1, a0, h =>
    gz_ck (gz_sh h a0 5 4) <|
    if (h.2.1 a0 1) ≤ (h.2.1 a0 2) then (
     fX5_readVillage_119 a0 h
    ) else (
     gz_b2 (fX5_figure a0 h) fun y_4 h_3 =>
     if y_4 = (-9 : Int32) then (
      fX5_readVillage_119 a0 h_3
     ) else (
      gz_ck (gz_sh h_3 a0 5 4) <|
      gz_b2 (fX5_figure a0 h_3) fun y_7 h_6 =>
      if (6 : Int32) ≤ y_7 then (
       some ((0 : Int32), h_6)
      ) else (
       gz_ck (gz_sh h_6 a0 5 4) <|
       gz_br (h_6.2.2.2 a0 3) fun r_11 =>
       gz_ck (gz_sh h_6 r_11 1 4) <|
       if (h_6.2.1 r_11 2) < (8 : Int32) then (
        gz_br (h_6.2.2.2 r_11 0) fun r_14 =>
        gz_lt (uI h_6 r_11 2 ((h_6.2.1 r_11 2) + (1 : Int32))) fun h_15 =>
        gz_ck (gz_sh h_15 a0 5 4) <|
        gz_b2 (fX5_figure a0 h_15) fun y_17 h_16 =>
        gz_ck (gz_inb h_16 r_14 10 (h_6.2.1 r_11 2)) <|
        gz_lt (uI h_16 r_14 (h_6.2.1 r_11 2).toNatClampNeg y_17) fun h_20 =>
        gz_ck (gz_sh h_20 a0 5 4) <|
        gz_lt (uI h_20 a0 2 ((h_20.2.1 a0 2) + (1 : Int32))) fun h_22 =>
        fX5_readVillage_37 n a0 h_22
       ) else (
        some ((0 : Int32), h_6)
       )
      )
     )
    )
set_option maxRecDepth 100000 in
set_option maxHeartbeats 1000000 in
theorem sX5_readVillage_37 {G : gz_G} {d l0 s0 : Nat} {Q : Int32 → gz_H → Prop} : ∀ (n : Nat) (a0 : Nat) (h : gz_H), gz_g (fX5_readVillage_37  n a0 h) Q → gz_Ok G mX5_readVillage (d + 1, l0, s0, 0, 0) 37 [.ref a0] [] h (gz_qi Q) := by
  intro n
  induction n with
  | zero => intro a0 h hf; exact False.elim hf
  | succ n ih =>
    intro a0 h hf
    rw [fX5_readVillage_37] at hf
    refine gz_aload_n (pc := 37) dX5_readVillage_37 rfl rfl ?_
    refine gz_gk hf (fun c_1 hf => ?_)
    refine gz_getI (pc := 38) dX5_readVillage_38 fl_RX5_19 rfl (gz_shs c_1) ?_
    refine gz_aload_n (pc := 41) dX5_readVillage_41 rfl rfl ?_
    refine gz_getI (pc := 42) dX5_readVillage_42 fl_RX5_15 rfl (gz_shs c_1) ?_
    refine gz_icmp_ge (tgt := 119) (pc := 45) dX5_readVillage_45 rfl (fun c_2 => ?_) (fun c_2 => ?_)
    · have hf := gz_gT hf c_2
      exact sX5_readVillage_119 a0 h hf
    · have hf := gz_gF hf c_2
      refine gz_aload_n (pc := 48) dX5_readVillage_48 rfl rfl ?_
      refine gz_cVI (av := []) (st := []) (pc := 49) dX5_readVillage_49 kl_RX5_42 rfl (gz_shs c_1) rfl rfl (Nat.le_of_ble_eq_true rfl) (by show d + 0 + 0 + 1 ≤ d + 1; omega) (sX5_figure (d := d + 0) (gz_gc hf)) (fun y_4 h_3 hf => ?_)
      refine gz_bipush (v := (-9 : Int32)) (pc := 52) dX5_readVillage_52 rfl ?_
      refine gz_icmp_eq (tgt := 119) (pc := 54) dX5_readVillage_54 rfl (fun c_5 => ?_) (fun c_5 => ?_)
      · have hf := gz_gT hf c_5
        exact sX5_readVillage_119 a0 h_3 hf
      · have hf := gz_gF hf c_5
        refine gz_aload_n (pc := 57) dX5_readVillage_57 rfl rfl ?_
        refine gz_gk hf (fun c_8 hf => ?_)
        refine gz_cVI (av := []) (st := []) (pc := 58) dX5_readVillage_58 kl_RX5_42 rfl (gz_shs c_8) rfl rfl (Nat.le_of_ble_eq_true rfl) (by show d + 0 + 0 + 1 ≤ d + 1; omega) (sX5_figure (d := d + 0) (gz_gc hf)) (fun y_7 h_6 hf => ?_)
        refine gz_bipush (v := (6 : Int32)) (pc := 61) dX5_readVillage_61 rfl ?_
        refine gz_icmp_ge (tgt := 78) (pc := 63) dX5_readVillage_63 rfl (fun c_9 => ?_) (fun c_9 => ?_)
        · have hf := gz_gT hf c_9
          refine gz_iconst (v := (0 : Int32)) (pc := 78) dX5_readVillage_78 rfl ?_
          exact gz_irt (pc := 79) dX5_readVillage_79 rfl rfl hf
        · have hf := gz_gF hf c_9
          refine gz_aload_n (pc := 66) dX5_readVillage_66 rfl rfl ?_
          refine gz_gk hf (fun c_10 hf => ?_)
          refine gz_gb hf (fun r_11 er_11 hf => ?_)
          refine gz_getR (pc := 67) dX5_readVillage_67 fl_RX5_22 rfl (gz_shs c_10) er_11 ?_
          refine gz_gk hf (fun c_12 hf => ?_)
          refine gz_getI (pc := 70) dX5_readVillage_70 fl_RX5_26 rfl (gz_shs c_12) ?_
          refine gz_bipush (v := (8 : Int32)) (pc := 73) dX5_readVillage_73 rfl ?_
          refine gz_icmp_lt (tgt := 80) (pc := 75) dX5_readVillage_75 rfl (fun c_13 => ?_) (fun c_13 => ?_)
          · have hf := gz_gT hf c_13
            refine gz_aload_n (pc := 80) dX5_readVillage_80 rfl rfl ?_
            refine gz_getR (pc := 81) dX5_readVillage_81 fl_RX5_22 rfl (gz_shs c_10) er_11 ?_
            refine gz_gb hf (fun r_14 er_14 hf => ?_)
            refine gz_getR (pc := 84) dX5_readVillage_84 fl_RX5_46 rfl (gz_shs c_12) er_14 ?_
            refine gz_aload_n (pc := 87) dX5_readVillage_87 rfl rfl ?_
            refine gz_getR (pc := 88) dX5_readVillage_88 fl_RX5_22 rfl (gz_shs c_10) er_11 ?_
            refine gz_dup (pc := 91) dX5_readVillage_91 rfl ?_
            refine gz_getI (pc := 92) dX5_readVillage_92 fl_RX5_26 rfl (gz_shs c_12) ?_
            refine gz_dup_x1 (pc := 95) dX5_readVillage_95 rfl rfl ?_
            refine gz_iconst (v := (1 : Int32)) (pc := 96) dX5_readVillage_96 rfl ?_
            refine gz_iadd (pc := 97) dX5_readVillage_97 ?_
            refine gz_putI (pc := 98) dX5_readVillage_98 fw_X5_readVillage_26 rfl rfl rfl (gz_shs c_12) ?_
            refine gz_nmH (fun h_15 eh_15 => ?_)
            have hf := gz_gl eh_15 hf
            refine gz_aload_n (pc := 101) dX5_readVillage_101 rfl rfl ?_
            refine gz_gk hf (fun c_18 hf => ?_)
            refine gz_cVI (av := []) (st := [.int (h_6.2.1 r_11 2), .ref r_14]) (pc := 102) dX5_readVillage_102 kl_RX5_42 rfl (gz_shs c_18) rfl rfl (Nat.le_of_ble_eq_true rfl) (by show d + 0 + 0 + 1 ≤ d + 1; omega) (sX5_figure (d := d + 0) (gz_gc hf)) (fun y_17 h_16 hf => ?_)
            refine gz_gk hf (fun c_19 hf => ?_)
            refine gz_iast (pc := 105) dX5_readVillage_105 c_19 ?_
            refine gz_nmH (fun h_20 eh_20 => ?_)
            have hf := gz_gl eh_20 hf
            refine gz_aload_n (pc := 106) dX5_readVillage_106 rfl rfl ?_
            refine gz_dup (pc := 107) dX5_readVillage_107 rfl ?_
            refine gz_gk hf (fun c_21 hf => ?_)
            refine gz_getI (pc := 108) dX5_readVillage_108 fl_RX5_19 rfl (gz_shs c_21) ?_
            refine gz_iconst (v := (1 : Int32)) (pc := 111) dX5_readVillage_111 rfl ?_
            refine gz_iadd (pc := 112) dX5_readVillage_112 ?_
            refine gz_putI (pc := 113) dX5_readVillage_113 fw_X5_readVillage_19 rfl rfl rfl (gz_shs c_21) ?_
            refine gz_nmH (fun h_22 eh_22 => ?_)
            have hf := gz_gl eh_22 hf
            refine gz_goto (tgt := 37) (pc := 116) dX5_readVillage_116 rfl ?_
            exact ih a0 h_22 hf
          · have hf := gz_gF hf c_13
            refine gz_iconst (v := (0 : Int32)) (pc := 78) dX5_readVillage_78 rfl ?_
            exact gz_irt (pc := 79) dX5_readVillage_79 rfl rfl hf
def fX5_readVillage_0  (a0 : Nat) (h : gz_H) : Option (Int32 × gz_H) :=
    gz_ck (gz_sh h a0 5 4) <|
    if (h.2.1 a0 1) ≤ (h.2.1 a0 2) then (
     some ((0 : Int32), h)
    ) else (
     gz_br (h.2.2.2 a0 0) fun r_3 =>
     gz_ck (gz_inb h r_3 10 (h.2.1 a0 2)) <|
     if (h.2.1 r_3 (h.2.1 a0 2).toNatClampNeg) = (118 : Int32) then (
      gz_lt (uI h a0 2 ((h.2.1 a0 2) + (1 : Int32))) fun h_6 =>
      fX5_readVillage_37 gz_fu a0 h_6
     ) else (
      some ((0 : Int32), h)
     )
    )
set_option maxRecDepth 100000 in
set_option maxHeartbeats 1000000 in
theorem sX5_readVillage_0 {G : gz_G} {d l0 s0 : Nat} {Q : Int32 → gz_H → Prop} (a0 : Nat) (h : gz_H) (hf : gz_g (fX5_readVillage_0  a0 h) Q) : gz_Ok G mX5_readVillage (d + 1, l0, s0, 0, 0) 0 [.ref a0] [] h (gz_qi Q) := by
  unfold fX5_readVillage_0 at hf
  refine gz_aload_n (pc := 0) dX5_readVillage_0 rfl rfl ?_
  refine gz_gk hf (fun c_1 hf => ?_)
  refine gz_getI (pc := 1) dX5_readVillage_1 fl_RX5_19 rfl (gz_shs c_1) ?_
  refine gz_aload_n (pc := 4) dX5_readVillage_4 rfl rfl ?_
  refine gz_getI (pc := 5) dX5_readVillage_5 fl_RX5_15 rfl (gz_shs c_1) ?_
  refine gz_icmp_ge (tgt := 25) (pc := 8) dX5_readVillage_8 rfl (fun c_2 => ?_) (fun c_2 => ?_)
  · have hf := gz_gT hf c_2
    refine gz_iconst (v := (0 : Int32)) (pc := 25) dX5_readVillage_25 rfl ?_
    exact gz_irt (pc := 26) dX5_readVillage_26 rfl rfl hf
  · have hf := gz_gF hf c_2
    refine gz_aload_n (pc := 11) dX5_readVillage_11 rfl rfl ?_
    refine gz_gb hf (fun r_3 er_3 hf => ?_)
    refine gz_getR (pc := 12) dX5_readVillage_12 fl_RX5_9 rfl (gz_shs c_1) er_3 ?_
    refine gz_aload_n (pc := 15) dX5_readVillage_15 rfl rfl ?_
    refine gz_getI (pc := 16) dX5_readVillage_16 fl_RX5_19 rfl (gz_shs c_1) ?_
    refine gz_gk hf (fun c_4 hf => ?_)
    refine gz_iald (pc := 19) dX5_readVillage_19 c_4 ?_
    refine gz_bipush (v := (118 : Int32)) (pc := 20) dX5_readVillage_20 rfl ?_
    refine gz_icmp_eq (tgt := 27) (pc := 22) dX5_readVillage_22 rfl (fun c_5 => ?_) (fun c_5 => ?_)
    · have hf := gz_gT hf c_5
      refine gz_aload_n (pc := 27) dX5_readVillage_27 rfl rfl ?_
      refine gz_dup (pc := 28) dX5_readVillage_28 rfl ?_
      refine gz_getI (pc := 29) dX5_readVillage_29 fl_RX5_19 rfl (gz_shs c_1) ?_
      refine gz_iconst (v := (1 : Int32)) (pc := 32) dX5_readVillage_32 rfl ?_
      refine gz_iadd (pc := 33) dX5_readVillage_33 ?_
      refine gz_putI (pc := 34) dX5_readVillage_34 fw_X5_readVillage_19 rfl rfl rfl (gz_shs c_1) ?_
      refine gz_nmH (fun h_6 eh_6 => ?_)
      have hf := gz_gl eh_6 hf
      exact sX5_readVillage_37 gz_fu a0 h_6 hf
    · have hf := gz_gF hf c_5
      refine gz_iconst (v := (0 : Int32)) (pc := 25) dX5_readVillage_25 rfl ?_
      exact gz_irt (pc := 26) dX5_readVillage_26 rfl rfl hf
def fX5_readVillage (a0 : Nat) (h : gz_H) : Option (Int32 × gz_H) := fX5_readVillage_0 a0 h
theorem sX5_readVillage {G : gz_G} {d : Nat} {a0 : Nat} {h : gz_H} {Q : Int32 → gz_H → Prop} (hf : gz_g (fX5_readVillage a0 h) Q) : gz_Cl G mX5_readVillage (d + 1) 0 0 [.ref a0] h (gz_qi Q) := gz_cl_of (lo := [.ref a0]) (by decide) rfl rfl (Nat.le_of_ble_eq_true rfl) (sX5_readVillage_0 a0 h hf)
theorem dX5_letter_0 : decode cX5_letter 0 = .ok (.iconst 0, 1) := by decide +kernel
theorem dX5_letter_1 : decode cX5_letter 1 = .ok (.istore_n 1, 1) := by decide +kernel
theorem dX5_letter_2 : decode cX5_letter 2 = .ok (.iload_n 1, 1) := by decide +kernel
theorem dX5_letter_3 : decode cX5_letter 3 = .ok (.bipush 6, 2) := by decide +kernel
theorem dX5_letter_5 : decode cX5_letter 5 = .ok (.if_icmp .ge 39, 3) := by decide +kernel
theorem dX5_letter_8 : decode cX5_letter 8 = .ok (.aload_n 0, 1) := by decide +kernel
theorem dX5_letter_9 : decode cX5_letter 9 = .ok (.getfield 19, 3) := by decide +kernel
theorem dX5_letter_12 : decode cX5_letter 12 = .ok (.aload_n 0, 1) := by decide +kernel
theorem dX5_letter_13 : decode cX5_letter 13 = .ok (.getfield 15, 3) := by decide +kernel
theorem dX5_letter_16 : decode cX5_letter 16 = .ok (.if_icmp .ge 28, 3) := by decide +kernel
theorem dX5_letter_19 : decode cX5_letter 19 = .ok (.aload_n 0, 1) := by decide +kernel
theorem dX5_letter_20 : decode cX5_letter 20 = .ok (.getfield 9, 3) := by decide +kernel
theorem dX5_letter_23 : decode cX5_letter 23 = .ok (.aload_n 0, 1) := by decide +kernel
theorem dX5_letter_24 : decode cX5_letter 24 = .ok (.getfield 19, 3) := by decide +kernel
theorem dX5_letter_27 : decode cX5_letter 27 = .ok (.iaload, 1) := by decide +kernel
theorem dX5_letter_28 : decode cX5_letter 28 = .ok (.getstatic 74, 3) := by decide +kernel
theorem dX5_letter_31 : decode cX5_letter 31 = .ok (.iload_n 1, 1) := by decide +kernel
theorem dX5_letter_32 : decode cX5_letter 32 = .ok (.caload, 1) := by decide +kernel
theorem dX5_letter_33 : decode cX5_letter 33 = .ok (.if_icmp .ne 5, 3) := by decide +kernel
theorem dX5_letter_36 : decode cX5_letter 36 = .ok (.iload_n 1, 1) := by decide +kernel
theorem dX5_letter_37 : decode cX5_letter 37 = .ok (.ireturn, 1) := by decide +kernel
theorem dX5_letter_38 : decode cX5_letter 38 = .ok (.iinc 1 1, 3) := by decide +kernel
theorem dX5_letter_41 : decode cX5_letter 41 = .ok (.goto (-39), 3) := by decide +kernel
theorem dX5_letter_44 : decode cX5_letter 44 = .ok (.bipush (-9), 2) := by decide +kernel
theorem dX5_letter_46 : decode cX5_letter 46 = .ok (.ireturn, 1) := by decide +kernel
def fX5_letter_2  : Nat → Nat → Int32 → gz_H → Option (Int32 × gz_H)
  | 0, _, _, _ => none
  | n + 1, a0, x1, h =>
    if (6 : Int32) ≤ x1 then (
     some ((-9 : Int32), h)
    ) else (
     gz_ck (gz_sh h a0 5 4) <|
     if (h.2.1 a0 1) ≤ (h.2.1 a0 2) then (
      some ((-9 : Int32), h)
     ) else (
      gz_br (h.2.2.2 a0 0) fun r_4 =>
      gz_ck (gz_inb h r_4 10 (h.2.1 a0 2)) <|
      gz_ck (gz_in6 x1) <|
      if (h.2.1 r_4 (h.2.1 a0 2).toNatClampNeg) = (gz_lt6 x1.toNatClampNeg) then (
       some (x1, h)
      ) else (
       fX5_letter_2 n a0 (x1 + 1) h
      )
     )
    )
set_option maxRecDepth 100000 in
set_option maxHeartbeats 1000000 in
theorem sX5_letter_2 {G : gz_G} {d l0 s0 : Nat} {Q : Int32 → gz_H → Prop} : ∀ (n : Nat) (a0 : Nat) (x1 : Int32) (h : gz_H), gz_g (fX5_letter_2  n a0 x1 h) Q → gz_Ok G mX5_letter (d + 0, l0, s0, 0, 0) 2 [.ref a0, .int x1] [] h (gz_qi Q) := by
  intro n
  induction n with
  | zero => intro a0 x1 h hf; exact False.elim hf
  | succ n ih =>
    intro a0 x1 h hf
    rw [fX5_letter_2] at hf
    refine gz_iload_n (pc := 2) dX5_letter_2 rfl rfl ?_
    refine gz_bipush (v := (6 : Int32)) (pc := 3) dX5_letter_3 rfl ?_
    refine gz_icmp_ge (tgt := 44) (pc := 5) dX5_letter_5 rfl (fun c_1 => ?_) (fun c_1 => ?_)
    · have hf := gz_gT hf c_1
      refine gz_bipush (v := (-9 : Int32)) (pc := 44) dX5_letter_44 rfl ?_
      exact gz_irt (pc := 46) dX5_letter_46 rfl rfl hf
    · have hf := gz_gF hf c_1
      refine gz_aload_n (pc := 8) dX5_letter_8 rfl rfl ?_
      refine gz_gk hf (fun c_2 hf => ?_)
      refine gz_getI (pc := 9) dX5_letter_9 fl_RX5_19 rfl (gz_shs c_2) ?_
      refine gz_aload_n (pc := 12) dX5_letter_12 rfl rfl ?_
      refine gz_getI (pc := 13) dX5_letter_13 fl_RX5_15 rfl (gz_shs c_2) ?_
      refine gz_icmp_ge (tgt := 44) (pc := 16) dX5_letter_16 rfl (fun c_3 => ?_) (fun c_3 => ?_)
      · have hf := gz_gT hf c_3
        refine gz_bipush (v := (-9 : Int32)) (pc := 44) dX5_letter_44 rfl ?_
        exact gz_irt (pc := 46) dX5_letter_46 rfl rfl hf
      · have hf := gz_gF hf c_3
        refine gz_aload_n (pc := 19) dX5_letter_19 rfl rfl ?_
        refine gz_gb hf (fun r_4 er_4 hf => ?_)
        refine gz_getR (pc := 20) dX5_letter_20 fl_RX5_9 rfl (gz_shs c_2) er_4 ?_
        refine gz_aload_n (pc := 23) dX5_letter_23 rfl rfl ?_
        refine gz_getI (pc := 24) dX5_letter_24 fl_RX5_19 rfl (gz_shs c_2) ?_
        refine gz_gk hf (fun c_5 hf => ?_)
        refine gz_iald (pc := 27) dX5_letter_27 c_5 ?_
        refine gz_gets (pc := 28) dX5_letter_28 kg_letters ?_
        refine gz_iload_n (pc := 31) dX5_letter_31 rfl rfl ?_
        refine gz_gk hf (fun c_6 hf => ?_)
        refine gz_cald (pc := 32) dX5_letter_32 c_6 ?_
        refine gz_icmp_ne (tgt := 38) (pc := 33) dX5_letter_33 rfl (fun c_7 => ?_) (fun c_7 => ?_)
        · have hf := gz_gF hf c_7
          refine gz_iinc (v := x1 + 1) (lv := [.ref a0, .int (x1 + 1)]) (pc := 38) dX5_letter_38 rfl rfl (by decide) rfl ?_
          refine gz_goto (tgt := 2) (pc := 41) dX5_letter_41 rfl ?_
          exact ih a0 (x1 + 1) h hf
        · have hf := gz_gT hf c_7
          refine gz_iload_n (pc := 36) dX5_letter_36 rfl rfl ?_
          exact gz_irt (pc := 37) dX5_letter_37 rfl rfl hf
def fX5_letter_0  (a0 : Nat) (h : gz_H) : Option (Int32 × gz_H) :=
    fX5_letter_2 gz_fu a0 (0 : Int32) h
set_option maxRecDepth 100000 in
set_option maxHeartbeats 1000000 in
theorem sX5_letter_0 {G : gz_G} {d l0 s0 : Nat} {Q : Int32 → gz_H → Prop} (a0 : Nat) (h : gz_H) (hf : gz_g (fX5_letter_0  a0 h) Q) : gz_Ok G mX5_letter (d + 0, l0, s0, 0, 0) 0 [.ref a0, .retAddr 0] [] h (gz_qi Q) := by
  unfold fX5_letter_0 at hf
  refine gz_iconst (v := (0 : Int32)) (pc := 0) dX5_letter_0 rfl ?_
  refine gz_istore_n (lv := [.ref a0, .int (0 : Int32)]) (pc := 1) dX5_letter_1 rfl (by decide) rfl ?_
  exact sX5_letter_2 gz_fu a0 (0 : Int32) h hf
def fX5_letter (a0 : Nat) (h : gz_H) : Option (Int32 × gz_H) := fX5_letter_0 a0 h
theorem sX5_letter {G : gz_G} {d : Nat} {a0 : Nat} {h : gz_H} {Q : Int32 → gz_H → Prop} (hf : gz_g (fX5_letter a0 h) Q) : gz_Cl G mX5_letter (d + 0) 0 0 [.ref a0] h (gz_qi Q) := gz_cl_of (lo := [.ref a0, .retAddr 0]) (by decide) rfl rfl (Nat.le_of_ble_eq_true rfl) (sX5_letter_0 a0 h hf)
theorem dX5_readGoose_0 : decode cX5_readGoose 0 = .ok (.aload_n 0, 1) := by decide +kernel
theorem dX5_readGoose_1 : decode cX5_readGoose 1 = .ok (.invokevirtual 49, 3) := by decide +kernel
theorem dX5_readGoose_4 : decode cX5_readGoose 4 = .ok (.istore_n 1, 1) := by decide +kernel
theorem dX5_readGoose_5 : decode cX5_readGoose 5 = .ok (.iload_n 1, 1) := by decide +kernel
theorem dX5_readGoose_6 : decode cX5_readGoose 6 = .ok (.bipush (-9), 2) := by decide +kernel
theorem dX5_readGoose_8 : decode cX5_readGoose 8 = .ok (.if_icmp .eq 15, 3) := by decide +kernel
theorem dX5_readGoose_11 : decode cX5_readGoose 11 = .ok (.aload_n 0, 1) := by decide +kernel
theorem dX5_readGoose_12 : decode cX5_readGoose 12 = .ok (.getfield 22, 3) := by decide +kernel
theorem dX5_readGoose_15 : decode cX5_readGoose 15 = .ok (.getfield 31, 3) := by decide +kernel
theorem dX5_readGoose_18 : decode cX5_readGoose 18 = .ok (.bipush 6, 2) := by decide +kernel
theorem dX5_readGoose_20 : decode cX5_readGoose 20 = .ok (.if_icmp .lt 5, 3) := by decide +kernel
theorem dX5_readGoose_23 : decode cX5_readGoose 23 = .ok (.iconst 0, 1) := by decide +kernel
theorem dX5_readGoose_24 : decode cX5_readGoose 24 = .ok (.ireturn, 1) := by decide +kernel
theorem dX5_readGoose_25 : decode cX5_readGoose 25 = .ok (.aload_n 0, 1) := by decide +kernel
theorem dX5_readGoose_26 : decode cX5_readGoose 26 = .ok (.dup, 1) := by decide +kernel
theorem dX5_readGoose_27 : decode cX5_readGoose 27 = .ok (.getfield 19, 3) := by decide +kernel
theorem dX5_readGoose_30 : decode cX5_readGoose 30 = .ok (.iconst 1, 1) := by decide +kernel
theorem dX5_readGoose_31 : decode cX5_readGoose 31 = .ok (.iadd, 1) := by decide +kernel
theorem dX5_readGoose_32 : decode cX5_readGoose 32 = .ok (.putfield 19, 3) := by decide +kernel
theorem dX5_readGoose_35 : decode cX5_readGoose 35 = .ok (.aload_n 0, 1) := by decide +kernel
theorem dX5_readGoose_36 : decode cX5_readGoose 36 = .ok (.invokevirtual 42, 3) := by decide +kernel
theorem dX5_readGoose_39 : decode cX5_readGoose 39 = .ok (.istore_n 2, 1) := by decide +kernel
theorem dX5_readGoose_40 : decode cX5_readGoose 40 = .ok (.iload_n 2, 1) := by decide +kernel
theorem dX5_readGoose_41 : decode cX5_readGoose 41 = .ok (.iconst 1, 1) := by decide +kernel
theorem dX5_readGoose_42 : decode cX5_readGoose 42 = .ok (.if_icmp .lt 9, 3) := by decide +kernel
theorem dX5_readGoose_45 : decode cX5_readGoose 45 = .ok (.iload_n 2, 1) := by decide +kernel
theorem dX5_readGoose_46 : decode cX5_readGoose 46 = .ok (.bipush 8, 2) := by decide +kernel
theorem dX5_readGoose_48 : decode cX5_readGoose 48 = .ok (.if_icmp .le 5, 3) := by decide +kernel
theorem dX5_readGoose_51 : decode cX5_readGoose 51 = .ok (.iconst 0, 1) := by decide +kernel
theorem dX5_readGoose_52 : decode cX5_readGoose 52 = .ok (.ireturn, 1) := by decide +kernel
theorem dX5_readGoose_53 : decode cX5_readGoose 53 = .ok (.aload_n 0, 1) := by decide +kernel
theorem dX5_readGoose_54 : decode cX5_readGoose 54 = .ok (.dup, 1) := by decide +kernel
theorem dX5_readGoose_55 : decode cX5_readGoose 55 = .ok (.getfield 19, 3) := by decide +kernel
theorem dX5_readGoose_58 : decode cX5_readGoose 58 = .ok (.iconst 1, 1) := by decide +kernel
theorem dX5_readGoose_59 : decode cX5_readGoose 59 = .ok (.iadd, 1) := by decide +kernel
theorem dX5_readGoose_60 : decode cX5_readGoose 60 = .ok (.putfield 19, 3) := by decide +kernel
theorem dX5_readGoose_63 : decode cX5_readGoose 63 = .ok (.aload_n 0, 1) := by decide +kernel
theorem dX5_readGoose_64 : decode cX5_readGoose 64 = .ok (.invokevirtual 42, 3) := by decide +kernel
theorem dX5_readGoose_67 : decode cX5_readGoose 67 = .ok (.istore_n 3, 1) := by decide +kernel
theorem dX5_readGoose_68 : decode cX5_readGoose 68 = .ok (.iload_n 3, 1) := by decide +kernel
theorem dX5_readGoose_69 : decode cX5_readGoose 69 = .ok (.bipush (-9), 2) := by decide +kernel
theorem dX5_readGoose_71 : decode cX5_readGoose 71 = .ok (.if_icmp .ne 5, 3) := by decide +kernel
theorem dX5_readGoose_74 : decode cX5_readGoose 74 = .ok (.iconst 0, 1) := by decide +kernel
theorem dX5_readGoose_75 : decode cX5_readGoose 75 = .ok (.ireturn, 1) := by decide +kernel
theorem dX5_readGoose_76 : decode cX5_readGoose 76 = .ok (.aload_n 0, 1) := by decide +kernel
theorem dX5_readGoose_77 : decode cX5_readGoose 77 = .ok (.getfield 22, 3) := by decide +kernel
theorem dX5_readGoose_80 : decode cX5_readGoose 80 = .ok (.getfield 52, 3) := by decide +kernel
theorem dX5_readGoose_83 : decode cX5_readGoose 83 = .ok (.aload_n 0, 1) := by decide +kernel
theorem dX5_readGoose_84 : decode cX5_readGoose 84 = .ok (.getfield 22, 3) := by decide +kernel
theorem dX5_readGoose_87 : decode cX5_readGoose 87 = .ok (.getfield 31, 3) := by decide +kernel
theorem dX5_readGoose_90 : decode cX5_readGoose 90 = .ok (.aaload, 1) := by decide +kernel
theorem dX5_readGoose_91 : decode cX5_readGoose 91 = .ok (.astore 4, 2) := by decide +kernel
theorem dX5_readGoose_93 : decode cX5_readGoose 93 = .ok (.aload 4, 2) := by decide +kernel
theorem dX5_readGoose_95 : decode cX5_readGoose 95 = .ok (.iload_n 1, 1) := by decide +kernel
theorem dX5_readGoose_96 : decode cX5_readGoose 96 = .ok (.iload_n 2, 1) := by decide +kernel
theorem dX5_readGoose_97 : decode cX5_readGoose 97 = .ok (.iload_n 3, 1) := by decide +kernel
theorem dX5_readGoose_98 : decode cX5_readGoose 98 = .ok (.invokevirtual 56, 3) := by decide +kernel
theorem dX5_readGoose_101 : decode cX5_readGoose 101 = .ok (.aload_n 0, 1) := by decide +kernel
theorem dX5_readGoose_102 : decode cX5_readGoose 102 = .ok (.dup, 1) := by decide +kernel
theorem dX5_readGoose_103 : decode cX5_readGoose 103 = .ok (.getfield 19, 3) := by decide +kernel
theorem dX5_readGoose_106 : decode cX5_readGoose 106 = .ok (.iconst 1, 1) := by decide +kernel
theorem dX5_readGoose_107 : decode cX5_readGoose 107 = .ok (.iadd, 1) := by decide +kernel
theorem dX5_readGoose_108 : decode cX5_readGoose 108 = .ok (.putfield 19, 3) := by decide +kernel
theorem dX5_readGoose_111 : decode cX5_readGoose 111 = .ok (.aload_n 0, 1) := by decide +kernel
theorem dX5_readGoose_112 : decode cX5_readGoose 112 = .ok (.getfield 19, 3) := by decide +kernel
theorem dX5_readGoose_115 : decode cX5_readGoose 115 = .ok (.aload_n 0, 1) := by decide +kernel
theorem dX5_readGoose_116 : decode cX5_readGoose 116 = .ok (.getfield 15, 3) := by decide +kernel
theorem dX5_readGoose_119 : decode cX5_readGoose 119 = .ok (.if_icmp .ge 71, 3) := by decide +kernel
theorem dX5_readGoose_122 : decode cX5_readGoose 122 = .ok (.aload_n 0, 1) := by decide +kernel
theorem dX5_readGoose_123 : decode cX5_readGoose 123 = .ok (.invokevirtual 42, 3) := by decide +kernel
theorem dX5_readGoose_126 : decode cX5_readGoose 126 = .ok (.bipush (-9), 2) := by decide +kernel
theorem dX5_readGoose_128 : decode cX5_readGoose 128 = .ok (.if_icmp .eq 62, 3) := by decide +kernel
theorem dX5_readGoose_131 : decode cX5_readGoose 131 = .ok (.aload_n 0, 1) := by decide +kernel
theorem dX5_readGoose_132 : decode cX5_readGoose 132 = .ok (.invokevirtual 42, 3) := by decide +kernel
theorem dX5_readGoose_135 : decode cX5_readGoose 135 = .ok (.istore 5, 2) := by decide +kernel
theorem dX5_readGoose_137 : decode cX5_readGoose 137 = .ok (.aload_n 0, 1) := by decide +kernel
theorem dX5_readGoose_138 : decode cX5_readGoose 138 = .ok (.getfield 22, 3) := by decide +kernel
theorem dX5_readGoose_141 : decode cX5_readGoose 141 = .ok (.iload 5, 2) := by decide +kernel
theorem dX5_readGoose_143 : decode cX5_readGoose 143 = .ok (.invokevirtual 62, 3) := by decide +kernel
theorem dX5_readGoose_146 : decode cX5_readGoose 146 = .ok (.ifCond .eq 21, 3) := by decide +kernel
theorem dX5_readGoose_149 : decode cX5_readGoose 149 = .ok (.aload 4, 2) := by decide +kernel
theorem dX5_readGoose_151 : decode cX5_readGoose 151 = .ok (.iload 5, 2) := by decide +kernel
theorem dX5_readGoose_153 : decode cX5_readGoose 153 = .ok (.invokevirtual 66, 3) := by decide +kernel
theorem dX5_readGoose_156 : decode cX5_readGoose 156 = .ok (.ifCond .ne 11, 3) := by decide +kernel
theorem dX5_readGoose_159 : decode cX5_readGoose 159 = .ok (.aload 4, 2) := by decide +kernel
theorem dX5_readGoose_161 : decode cX5_readGoose 161 = .ok (.invokevirtual 67, 3) := by decide +kernel
theorem dX5_readGoose_164 : decode cX5_readGoose 164 = .ok (.ifCond .eq 5, 3) := by decide +kernel
theorem dX5_readGoose_167 : decode cX5_readGoose 167 = .ok (.iconst 0, 1) := by decide +kernel
theorem dX5_readGoose_168 : decode cX5_readGoose 168 = .ok (.ireturn, 1) := by decide +kernel
theorem dX5_readGoose_169 : decode cX5_readGoose 169 = .ok (.aload 4, 2) := by decide +kernel
theorem dX5_readGoose_171 : decode cX5_readGoose 171 = .ok (.iload 5, 2) := by decide +kernel
theorem dX5_readGoose_173 : decode cX5_readGoose 173 = .ok (.invokevirtual 70, 3) := by decide +kernel
theorem dX5_readGoose_176 : decode cX5_readGoose 176 = .ok (.pop, 1) := by decide +kernel
theorem dX5_readGoose_177 : decode cX5_readGoose 177 = .ok (.aload_n 0, 1) := by decide +kernel
theorem dX5_readGoose_178 : decode cX5_readGoose 178 = .ok (.dup, 1) := by decide +kernel
theorem dX5_readGoose_179 : decode cX5_readGoose 179 = .ok (.getfield 19, 3) := by decide +kernel
theorem dX5_readGoose_182 : decode cX5_readGoose 182 = .ok (.iconst 1, 1) := by decide +kernel
theorem dX5_readGoose_183 : decode cX5_readGoose 183 = .ok (.iadd, 1) := by decide +kernel
theorem dX5_readGoose_184 : decode cX5_readGoose 184 = .ok (.putfield 19, 3) := by decide +kernel
theorem dX5_readGoose_187 : decode cX5_readGoose 187 = .ok (.goto (-76), 3) := by decide +kernel
theorem dX5_readGoose_190 : decode cX5_readGoose 190 = .ok (.aload_n 0, 1) := by decide +kernel
theorem dX5_readGoose_191 : decode cX5_readGoose 191 = .ok (.getfield 22, 3) := by decide +kernel
theorem dX5_readGoose_194 : decode cX5_readGoose 194 = .ok (.dup, 1) := by decide +kernel
theorem dX5_readGoose_195 : decode cX5_readGoose 195 = .ok (.getfield 31, 3) := by decide +kernel
theorem dX5_readGoose_198 : decode cX5_readGoose 198 = .ok (.iconst 1, 1) := by decide +kernel
theorem dX5_readGoose_199 : decode cX5_readGoose 199 = .ok (.iadd, 1) := by decide +kernel
theorem dX5_readGoose_200 : decode cX5_readGoose 200 = .ok (.putfield 31, 3) := by decide +kernel
theorem dX5_readGoose_203 : decode cX5_readGoose 203 = .ok (.iconst 1, 1) := by decide +kernel
theorem dX5_readGoose_204 : decode cX5_readGoose 204 = .ok (.ireturn, 1) := by decide +kernel
def fX5_readGoose_190  (a0 : Nat) (h : gz_H) : Option (Int32 × gz_H) :=
    gz_ck (gz_sh h a0 5 4) <|
    gz_br (h.2.2.2 a0 3) fun r_2 =>
    gz_ck (gz_sh h r_2 1 4) <|
    gz_lt (uI h r_2 3 ((h.2.1 r_2 3) + (1 : Int32))) fun h_4 =>
    some ((1 : Int32), h_4)
set_option maxRecDepth 100000 in
set_option maxHeartbeats 1000000 in
theorem sX5_readGoose_190 {G : gz_G} {d l0 s0 : Nat} {Q : Int32 → gz_H → Prop} (a0 : Nat) (h : gz_H) (hf : gz_g (fX5_readGoose_190  a0 h) Q) : gz_Ok G mX5_readGoose (d + 2, l0, s0, 0, 0) 190 [.ref a0, .retAddr 0, .retAddr 0, .retAddr 0, .retAddr 0, .retAddr 0] [] h (gz_qi Q) := by
  unfold fX5_readGoose_190 at hf
  refine gz_aload_n (pc := 190) dX5_readGoose_190 rfl rfl ?_
  refine gz_gk hf (fun c_1 hf => ?_)
  refine gz_gb hf (fun r_2 er_2 hf => ?_)
  refine gz_getR (pc := 191) dX5_readGoose_191 fl_RX5_22 rfl (gz_shs c_1) er_2 ?_
  refine gz_dup (pc := 194) dX5_readGoose_194 rfl ?_
  refine gz_gk hf (fun c_3 hf => ?_)
  refine gz_getI (pc := 195) dX5_readGoose_195 fl_RX5_31 rfl (gz_shs c_3) ?_
  refine gz_iconst (v := (1 : Int32)) (pc := 198) dX5_readGoose_198 rfl ?_
  refine gz_iadd (pc := 199) dX5_readGoose_199 ?_
  refine gz_putI (pc := 200) dX5_readGoose_200 fw_X5_readGoose_31 rfl rfl rfl (gz_shs c_3) ?_
  refine gz_nmH (fun h_4 eh_4 => ?_)
  have hf := gz_gl eh_4 hf
  refine gz_iconst (v := (1 : Int32)) (pc := 203) dX5_readGoose_203 rfl ?_
  exact gz_irt (pc := 204) dX5_readGoose_204 rfl rfl hf
def fX5_readGoose_111  : Nat → Nat → Nat → gz_H → Option (Int32 × gz_H)
  | 0, _, _, _ => none
  | n + 1, a0, a4, h =>
    gz_ck (gz_sh h a0 5 4) <|
    if (h.2.1 a0 1) ≤ (h.2.1 a0 2) then (
     fX5_readGoose_190 a0 h
    ) else (
     gz_b2 (fX5_figure a0 h) fun y_4 h_3 =>
     if y_4 = (-9 : Int32) then (
      fX5_readGoose_190 a0 h_3
     ) else (
      gz_ck (gz_sh h_3 a0 5 4) <|
      gz_b2 (fX5_figure a0 h_3) fun y_7 h_6 =>
      gz_ck (gz_sh h_6 a0 5 4) <|
      gz_br (h_6.2.2.2 a0 3) fun r_10 =>
      gz_ck (gz_sh h_6 r_10 1 4) <|
      gz_b2 (fX1_hasFact r_10 y_7 h_6) fun y_12 h_11 =>
      if y_12 = 0 then (
       some ((0 : Int32), h_11)
      ) else (
       gz_ck (gz_sh h_11 a4 2 6) <|
       gz_b2 (fX2_hasFact a4 y_7 h_11) fun y_16 h_15 =>
       if y_16 = 0 then (
        gz_ck (gz_sh h_15 a4 2 6) <|
        gz_b2 (fX2_isFilled a4 h_15) fun y_20 h_19 =>
        if y_20 = 0 then (
         gz_ck (gz_sh h_19 a4 2 6) <|
         gz_b2 (fX2_take a4 y_7 h_19) fun y_24 h_23 =>
         gz_ck (gz_sh h_23 a0 5 4) <|
         gz_lt (uI h_23 a0 2 ((h_23.2.1 a0 2) + (1 : Int32))) fun h_27 =>
         fX5_readGoose_111 n a0 a4 h_27
        ) else (
         some ((0 : Int32), h_19)
        )
       ) else (
        some ((0 : Int32), h_15)
       )
      )
     )
    )
set_option maxRecDepth 100000 in
set_option maxHeartbeats 1000000 in
theorem sX5_readGoose_111 {G : gz_G} {d l0 s0 : Nat} {Q : Int32 → gz_H → Prop} : ∀ (n : Nat) (a0 : Nat) (a4 : Nat) (h : gz_H), gz_g (fX5_readGoose_111  n a0 a4 h) Q → gz_Ok G mX5_readGoose (d + 2, l0, s0, 0, 0) 111 [.ref a0, .retAddr 0, .retAddr 0, .retAddr 0, .ref a4, .retAddr 0] [] h (gz_qi Q) := by
  intro n
  induction n with
  | zero => intro a0 a4 h hf; exact False.elim hf
  | succ n ih =>
    intro a0 a4 h hf
    rw [fX5_readGoose_111] at hf
    refine gz_aload_n (pc := 111) dX5_readGoose_111 rfl rfl ?_
    refine gz_gk hf (fun c_1 hf => ?_)
    refine gz_getI (pc := 112) dX5_readGoose_112 fl_RX5_19 rfl (gz_shs c_1) ?_
    refine gz_aload_n (pc := 115) dX5_readGoose_115 rfl rfl ?_
    refine gz_getI (pc := 116) dX5_readGoose_116 fl_RX5_15 rfl (gz_shs c_1) ?_
    refine gz_icmp_ge (tgt := 190) (pc := 119) dX5_readGoose_119 rfl (fun c_2 => ?_) (fun c_2 => ?_)
    · have hf := gz_gT hf c_2
      refine gz_fg (lv := [.ref a0, .retAddr 0, .retAddr 0, .retAddr 0, .retAddr 0, .retAddr 0]) ⟨Or.inr rfl, ⟨Or.inl rfl, ⟨Or.inl rfl, ⟨Or.inl rfl, ⟨Or.inl rfl, ⟨Or.inl rfl, trivial⟩⟩⟩⟩⟩⟩ ?_
      exact sX5_readGoose_190 a0 h hf
    · have hf := gz_gF hf c_2
      refine gz_aload_n (pc := 122) dX5_readGoose_122 rfl rfl ?_
      refine gz_cVI (av := []) (st := []) (pc := 123) dX5_readGoose_123 kl_RX5_42 rfl (gz_shs c_1) rfl rfl (Nat.le_of_ble_eq_true rfl) (by show d + 1 + 0 + 1 ≤ d + 2; omega) (sX5_figure (d := d + 1) (gz_gc hf)) (fun y_4 h_3 hf => ?_)
      refine gz_bipush (v := (-9 : Int32)) (pc := 126) dX5_readGoose_126 rfl ?_
      refine gz_icmp_eq (tgt := 190) (pc := 128) dX5_readGoose_128 rfl (fun c_5 => ?_) (fun c_5 => ?_)
      · have hf := gz_gT hf c_5
        refine gz_fg (lv := [.ref a0, .retAddr 0, .retAddr 0, .retAddr 0, .retAddr 0, .retAddr 0]) ⟨Or.inr rfl, ⟨Or.inl rfl, ⟨Or.inl rfl, ⟨Or.inl rfl, ⟨Or.inl rfl, ⟨Or.inl rfl, trivial⟩⟩⟩⟩⟩⟩ ?_
        exact sX5_readGoose_190 a0 h_3 hf
      · have hf := gz_gF hf c_5
        refine gz_aload_n (pc := 131) dX5_readGoose_131 rfl rfl ?_
        refine gz_gk hf (fun c_8 hf => ?_)
        refine gz_cVI (av := []) (st := []) (pc := 132) dX5_readGoose_132 kl_RX5_42 rfl (gz_shs c_8) rfl rfl (Nat.le_of_ble_eq_true rfl) (by show d + 1 + 0 + 1 ≤ d + 2; omega) (sX5_figure (d := d + 1) (gz_gc hf)) (fun y_7 h_6 hf => ?_)
        refine gz_istore (lv := [.ref a0, .retAddr 0, .retAddr 0, .retAddr 0, .ref a4, .int y_7]) (pc := 135) dX5_readGoose_135 (by decide) rfl ?_
        refine gz_aload_n (pc := 137) dX5_readGoose_137 rfl rfl ?_
        refine gz_gk hf (fun c_9 hf => ?_)
        refine gz_gb hf (fun r_10 er_10 hf => ?_)
        refine gz_getR (pc := 138) dX5_readGoose_138 fl_RX5_22 rfl (gz_shs c_9) er_10 ?_
        refine gz_iload (pc := 141) dX5_readGoose_141 rfl ?_
        refine gz_gk hf (fun c_13 hf => ?_)
        refine gz_cVI (av := [.int y_7]) (st := []) (pc := 143) dX5_readGoose_143 kl_RX5_62 rfl (gz_shs c_13) rfl rfl (Nat.le_of_ble_eq_true rfl) (by show d + 1 + 0 + 1 ≤ d + 2; omega) (sX1_hasFact (d := d + 1) (gz_gc hf)) (fun y_12 h_11 hf => ?_)
        refine gz_if_eq (tgt := 167) (pc := 146) dX5_readGoose_146 rfl (fun c_14 => ?_) (fun c_14 => ?_)
        · have hf := gz_gT hf c_14
          refine gz_iconst (v := (0 : Int32)) (pc := 167) dX5_readGoose_167 rfl ?_
          exact gz_irt (pc := 168) dX5_readGoose_168 rfl rfl hf
        · have hf := gz_gF hf c_14
          refine gz_aload (pc := 149) dX5_readGoose_149 rfl ?_
          refine gz_iload (pc := 151) dX5_readGoose_151 rfl ?_
          refine gz_gk hf (fun c_17 hf => ?_)
          refine gz_cVI (av := [.int y_7]) (st := []) (pc := 153) dX5_readGoose_153 kl_RX5_66 rfl (gz_shs c_17) rfl rfl (Nat.le_of_ble_eq_true rfl) (by show d + 0 + 1 + 1 ≤ d + 2; omega) (sX2_hasFact (d := d + 0) (gz_gc hf)) (fun y_16 h_15 hf => ?_)
          refine gz_if_ne (tgt := 167) (pc := 156) dX5_readGoose_156 rfl (fun c_18 => ?_) (fun c_18 => ?_)
          · have hf := gz_gF hf c_18
            refine gz_iconst (v := (0 : Int32)) (pc := 167) dX5_readGoose_167 rfl ?_
            exact gz_irt (pc := 168) dX5_readGoose_168 rfl rfl hf
          · have hf := gz_gT hf c_18
            refine gz_aload (pc := 159) dX5_readGoose_159 rfl ?_
            refine gz_gk hf (fun c_21 hf => ?_)
            refine gz_cVI (av := []) (st := []) (pc := 161) dX5_readGoose_161 kl_RX5_67 rfl (gz_shs c_21) rfl rfl (Nat.le_of_ble_eq_true rfl) (by show d + 1 + 0 + 1 ≤ d + 2; omega) (sX2_isFilled (d := d + 1) (gz_gc hf)) (fun y_20 h_19 hf => ?_)
            refine gz_if_eq (tgt := 169) (pc := 164) dX5_readGoose_164 rfl (fun c_22 => ?_) (fun c_22 => ?_)
            · have hf := gz_gT hf c_22
              refine gz_aload (pc := 169) dX5_readGoose_169 rfl ?_
              refine gz_iload (pc := 171) dX5_readGoose_171 rfl ?_
              refine gz_gk hf (fun c_25 hf => ?_)
              refine gz_cVI (av := [.int y_7]) (st := []) (pc := 173) dX5_readGoose_173 kl_RX5_70 rfl (gz_shs c_25) rfl rfl (Nat.le_of_ble_eq_true rfl) (by show d + 0 + 1 + 1 ≤ d + 2; omega) (sX2_take (d := d + 0) (gz_gc hf)) (fun y_24 h_23 hf => ?_)
              refine gz_pop (pc := 176) dX5_readGoose_176 rfl ?_
              refine gz_aload_n (pc := 177) dX5_readGoose_177 rfl rfl ?_
              refine gz_dup (pc := 178) dX5_readGoose_178 rfl ?_
              refine gz_gk hf (fun c_26 hf => ?_)
              refine gz_getI (pc := 179) dX5_readGoose_179 fl_RX5_19 rfl (gz_shs c_26) ?_
              refine gz_iconst (v := (1 : Int32)) (pc := 182) dX5_readGoose_182 rfl ?_
              refine gz_iadd (pc := 183) dX5_readGoose_183 ?_
              refine gz_putI (pc := 184) dX5_readGoose_184 fw_X5_readGoose_19 rfl rfl rfl (gz_shs c_26) ?_
              refine gz_nmH (fun h_27 eh_27 => ?_)
              have hf := gz_gl eh_27 hf
              refine gz_goto (tgt := 111) (pc := 187) dX5_readGoose_187 rfl ?_
              refine gz_fg (lv := [.ref a0, .retAddr 0, .retAddr 0, .retAddr 0, .ref a4, .retAddr 0]) ⟨Or.inr rfl, ⟨Or.inl rfl, ⟨Or.inl rfl, ⟨Or.inl rfl, ⟨Or.inr rfl, ⟨Or.inl rfl, trivial⟩⟩⟩⟩⟩⟩ ?_
              exact ih a0 a4 h_27 hf
            · have hf := gz_gF hf c_22
              refine gz_iconst (v := (0 : Int32)) (pc := 167) dX5_readGoose_167 rfl ?_
              exact gz_irt (pc := 168) dX5_readGoose_168 rfl rfl hf
def fX5_readGoose_0  (a0 : Nat) (h : gz_H) : Option (Int32 × gz_H) :=
    gz_ck (gz_sh h a0 5 4) <|
    gz_b2 (fX5_letter a0 h) fun y_2 h_1 =>
    if y_2 = (-9 : Int32) then (
     some ((0 : Int32), h_1)
    ) else (
     gz_ck (gz_sh h_1 a0 5 4) <|
     gz_br (h_1.2.2.2 a0 3) fun r_6 =>
     gz_ck (gz_sh h_1 r_6 1 4) <|
     if (h_1.2.1 r_6 3) < (6 : Int32) then (
      gz_lt (uI h_1 a0 2 ((h_1.2.1 a0 2) + (1 : Int32))) fun h_9 =>
      gz_ck (gz_sh h_9 a0 5 4) <|
      gz_b2 (fX5_figure a0 h_9) fun y_11 h_10 =>
      if y_11 < (1 : Int32) then (
       some ((0 : Int32), h_10)
      ) else (
       if y_11 ≤ (8 : Int32) then (
        gz_ck (gz_sh h_10 a0 5 4) <|
        gz_lt (uI h_10 a0 2 ((h_10.2.1 a0 2) + (1 : Int32))) fun h_16 =>
        gz_ck (gz_sh h_16 a0 5 4) <|
        gz_b2 (fX5_figure a0 h_16) fun y_18 h_17 =>
        if y_18 = (-9 : Int32) then (
         some ((0 : Int32), h_17)
        ) else (
         gz_ck (gz_sh h_17 a0 5 4) <|
         gz_br (h_17.2.2.2 a0 3) fun r_22 =>
         gz_ck (gz_sh h_17 r_22 1 4) <|
         gz_br (h_17.2.2.2 r_22 1) fun r_24 =>
         gz_ck (gz_inb h_17 r_24 11 (h_17.2.1 r_22 3)) <|
         gz_br (h_17.2.2.2 r_24 (h_17.2.1 r_22 3).toNatClampNeg) fun r_26 =>
         gz_ck (gz_sh h_17 r_26 2 6) <|
         gz_b2 (fX2_become r_26 y_2 y_11 y_18 h_17) fun _ h_27 =>
         gz_ck (gz_sh h_27 a0 5 4) <|
         gz_lt (uI h_27 a0 2 ((h_27.2.1 a0 2) + (1 : Int32))) fun h_31 =>
         fX5_readGoose_111 gz_fu a0 r_26 h_31
        )
       ) else (
        some ((0 : Int32), h_10)
       )
      )
     ) else (
      some ((0 : Int32), h_1)
     )
    )
set_option maxRecDepth 100000 in
set_option maxHeartbeats 1000000 in
theorem sX5_readGoose_0 {G : gz_G} {d l0 s0 : Nat} {Q : Int32 → gz_H → Prop} (a0 : Nat) (h : gz_H) (hf : gz_g (fX5_readGoose_0  a0 h) Q) : gz_Ok G mX5_readGoose (d + 2, l0, s0, 0, 0) 0 [.ref a0, .retAddr 0, .retAddr 0, .retAddr 0, .retAddr 0, .retAddr 0] [] h (gz_qi Q) := by
  unfold fX5_readGoose_0 at hf
  refine gz_aload_n (pc := 0) dX5_readGoose_0 rfl rfl ?_
  refine gz_gk hf (fun c_3 hf => ?_)
  refine gz_cVI (av := []) (st := []) (pc := 1) dX5_readGoose_1 kl_RX5_49 rfl (gz_shs c_3) rfl rfl (Nat.le_of_ble_eq_true rfl) (by show d + 1 + 0 + 1 ≤ d + 2; omega) (sX5_letter (d := d + 1) (gz_gc hf)) (fun y_2 h_1 hf => ?_)
  refine gz_istore_n (lv := [.ref a0, .int y_2, .retAddr 0, .retAddr 0, .retAddr 0, .retAddr 0]) (pc := 4) dX5_readGoose_4 rfl (by decide) rfl ?_
  refine gz_iload_n (pc := 5) dX5_readGoose_5 rfl rfl ?_
  refine gz_bipush (v := (-9 : Int32)) (pc := 6) dX5_readGoose_6 rfl ?_
  refine gz_icmp_eq (tgt := 23) (pc := 8) dX5_readGoose_8 rfl (fun c_4 => ?_) (fun c_4 => ?_)
  · have hf := gz_gT hf c_4
    refine gz_iconst (v := (0 : Int32)) (pc := 23) dX5_readGoose_23 rfl ?_
    exact gz_irt (pc := 24) dX5_readGoose_24 rfl rfl hf
  · have hf := gz_gF hf c_4
    refine gz_aload_n (pc := 11) dX5_readGoose_11 rfl rfl ?_
    refine gz_gk hf (fun c_5 hf => ?_)
    refine gz_gb hf (fun r_6 er_6 hf => ?_)
    refine gz_getR (pc := 12) dX5_readGoose_12 fl_RX5_22 rfl (gz_shs c_5) er_6 ?_
    refine gz_gk hf (fun c_7 hf => ?_)
    refine gz_getI (pc := 15) dX5_readGoose_15 fl_RX5_31 rfl (gz_shs c_7) ?_
    refine gz_bipush (v := (6 : Int32)) (pc := 18) dX5_readGoose_18 rfl ?_
    refine gz_icmp_lt (tgt := 25) (pc := 20) dX5_readGoose_20 rfl (fun c_8 => ?_) (fun c_8 => ?_)
    · have hf := gz_gT hf c_8
      refine gz_aload_n (pc := 25) dX5_readGoose_25 rfl rfl ?_
      refine gz_dup (pc := 26) dX5_readGoose_26 rfl ?_
      refine gz_getI (pc := 27) dX5_readGoose_27 fl_RX5_19 rfl (gz_shs c_5) ?_
      refine gz_iconst (v := (1 : Int32)) (pc := 30) dX5_readGoose_30 rfl ?_
      refine gz_iadd (pc := 31) dX5_readGoose_31 ?_
      refine gz_putI (pc := 32) dX5_readGoose_32 fw_X5_readGoose_19 rfl rfl rfl (gz_shs c_5) ?_
      refine gz_nmH (fun h_9 eh_9 => ?_)
      have hf := gz_gl eh_9 hf
      refine gz_aload_n (pc := 35) dX5_readGoose_35 rfl rfl ?_
      refine gz_gk hf (fun c_12 hf => ?_)
      refine gz_cVI (av := []) (st := []) (pc := 36) dX5_readGoose_36 kl_RX5_42 rfl (gz_shs c_12) rfl rfl (Nat.le_of_ble_eq_true rfl) (by show d + 1 + 0 + 1 ≤ d + 2; omega) (sX5_figure (d := d + 1) (gz_gc hf)) (fun y_11 h_10 hf => ?_)
      refine gz_istore_n (lv := [.ref a0, .int y_2, .int y_11, .retAddr 0, .retAddr 0, .retAddr 0]) (pc := 39) dX5_readGoose_39 rfl (by decide) rfl ?_
      refine gz_iload_n (pc := 40) dX5_readGoose_40 rfl rfl ?_
      refine gz_iconst (v := (1 : Int32)) (pc := 41) dX5_readGoose_41 rfl ?_
      refine gz_icmp_lt (tgt := 51) (pc := 42) dX5_readGoose_42 rfl (fun c_13 => ?_) (fun c_13 => ?_)
      · have hf := gz_gT hf c_13
        refine gz_iconst (v := (0 : Int32)) (pc := 51) dX5_readGoose_51 rfl ?_
        exact gz_irt (pc := 52) dX5_readGoose_52 rfl rfl hf
      · have hf := gz_gF hf c_13
        refine gz_iload_n (pc := 45) dX5_readGoose_45 rfl rfl ?_
        refine gz_bipush (v := (8 : Int32)) (pc := 46) dX5_readGoose_46 rfl ?_
        refine gz_icmp_le (tgt := 53) (pc := 48) dX5_readGoose_48 rfl (fun c_14 => ?_) (fun c_14 => ?_)
        · have hf := gz_gT hf c_14
          refine gz_aload_n (pc := 53) dX5_readGoose_53 rfl rfl ?_
          refine gz_dup (pc := 54) dX5_readGoose_54 rfl ?_
          refine gz_gk hf (fun c_15 hf => ?_)
          refine gz_getI (pc := 55) dX5_readGoose_55 fl_RX5_19 rfl (gz_shs c_15) ?_
          refine gz_iconst (v := (1 : Int32)) (pc := 58) dX5_readGoose_58 rfl ?_
          refine gz_iadd (pc := 59) dX5_readGoose_59 ?_
          refine gz_putI (pc := 60) dX5_readGoose_60 fw_X5_readGoose_19 rfl rfl rfl (gz_shs c_15) ?_
          refine gz_nmH (fun h_16 eh_16 => ?_)
          have hf := gz_gl eh_16 hf
          refine gz_aload_n (pc := 63) dX5_readGoose_63 rfl rfl ?_
          refine gz_gk hf (fun c_19 hf => ?_)
          refine gz_cVI (av := []) (st := []) (pc := 64) dX5_readGoose_64 kl_RX5_42 rfl (gz_shs c_19) rfl rfl (Nat.le_of_ble_eq_true rfl) (by show d + 1 + 0 + 1 ≤ d + 2; omega) (sX5_figure (d := d + 1) (gz_gc hf)) (fun y_18 h_17 hf => ?_)
          refine gz_istore_n (lv := [.ref a0, .int y_2, .int y_11, .int y_18, .retAddr 0, .retAddr 0]) (pc := 67) dX5_readGoose_67 rfl (by decide) rfl ?_
          refine gz_iload_n (pc := 68) dX5_readGoose_68 rfl rfl ?_
          refine gz_bipush (v := (-9 : Int32)) (pc := 69) dX5_readGoose_69 rfl ?_
          refine gz_icmp_ne (tgt := 76) (pc := 71) dX5_readGoose_71 rfl (fun c_20 => ?_) (fun c_20 => ?_)
          · have hf := gz_gF hf c_20
            refine gz_aload_n (pc := 76) dX5_readGoose_76 rfl rfl ?_
            refine gz_gk hf (fun c_21 hf => ?_)
            refine gz_gb hf (fun r_22 er_22 hf => ?_)
            refine gz_getR (pc := 77) dX5_readGoose_77 fl_RX5_22 rfl (gz_shs c_21) er_22 ?_
            refine gz_gk hf (fun c_23 hf => ?_)
            refine gz_gb hf (fun r_24 er_24 hf => ?_)
            refine gz_getR (pc := 80) dX5_readGoose_80 fl_RX5_52 rfl (gz_shs c_23) er_24 ?_
            refine gz_aload_n (pc := 83) dX5_readGoose_83 rfl rfl ?_
            refine gz_getR (pc := 84) dX5_readGoose_84 fl_RX5_22 rfl (gz_shs c_21) er_22 ?_
            refine gz_getI (pc := 87) dX5_readGoose_87 fl_RX5_31 rfl (gz_shs c_23) ?_
            refine gz_gk hf (fun c_25 hf => ?_)
            refine gz_gb hf (fun r_26 er_26 hf => ?_)
            refine gz_aald (Or.inl rfl) (pc := 90) dX5_readGoose_90 c_25 er_26 ?_
            refine gz_astore (lv := [.ref a0, .int y_2, .int y_11, .int y_18, .ref r_26, .retAddr 0]) (pc := 91) dX5_readGoose_91 (by decide) rfl ?_
            refine gz_aload (pc := 93) dX5_readGoose_93 rfl ?_
            refine gz_iload_n (pc := 95) dX5_readGoose_95 rfl rfl ?_
            refine gz_iload_n (pc := 96) dX5_readGoose_96 rfl rfl ?_
            refine gz_iload_n (pc := 97) dX5_readGoose_97 rfl rfl ?_
            refine gz_gk hf (fun c_29 hf => ?_)
            refine gz_cVV (av := [.int y_2, .int y_11, .int y_18]) (st := []) (pc := 98) dX5_readGoose_98 kl_RX5_56 rfl (gz_shs c_29) rfl rfl (Nat.le_of_ble_eq_true rfl) (by show d + 1 + 0 + 1 ≤ d + 2; omega) (sX2_become (d := d + 1) (gz_gc hf)) (fun _ h_27 hf => ?_)
            refine gz_aload_n (pc := 101) dX5_readGoose_101 rfl rfl ?_
            refine gz_dup (pc := 102) dX5_readGoose_102 rfl ?_
            refine gz_gk hf (fun c_30 hf => ?_)
            refine gz_getI (pc := 103) dX5_readGoose_103 fl_RX5_19 rfl (gz_shs c_30) ?_
            refine gz_iconst (v := (1 : Int32)) (pc := 106) dX5_readGoose_106 rfl ?_
            refine gz_iadd (pc := 107) dX5_readGoose_107 ?_
            refine gz_putI (pc := 108) dX5_readGoose_108 fw_X5_readGoose_19 rfl rfl rfl (gz_shs c_30) ?_
            refine gz_nmH (fun h_31 eh_31 => ?_)
            have hf := gz_gl eh_31 hf
            refine gz_fg (lv := [.ref a0, .retAddr 0, .retAddr 0, .retAddr 0, .ref r_26, .retAddr 0]) ⟨Or.inr rfl, ⟨Or.inl rfl, ⟨Or.inl rfl, ⟨Or.inl rfl, ⟨Or.inr rfl, ⟨Or.inl rfl, trivial⟩⟩⟩⟩⟩⟩ ?_
            exact sX5_readGoose_111 gz_fu a0 r_26 h_31 hf
          · have hf := gz_gT hf c_20
            refine gz_iconst (v := (0 : Int32)) (pc := 74) dX5_readGoose_74 rfl ?_
            exact gz_irt (pc := 75) dX5_readGoose_75 rfl rfl hf
        · have hf := gz_gF hf c_14
          refine gz_iconst (v := (0 : Int32)) (pc := 51) dX5_readGoose_51 rfl ?_
          exact gz_irt (pc := 52) dX5_readGoose_52 rfl rfl hf
    · have hf := gz_gF hf c_8
      refine gz_iconst (v := (0 : Int32)) (pc := 23) dX5_readGoose_23 rfl ?_
      exact gz_irt (pc := 24) dX5_readGoose_24 rfl rfl hf
def fX5_readGoose (a0 : Nat) (h : gz_H) : Option (Int32 × gz_H) := fX5_readGoose_0 a0 h
theorem sX5_readGoose {G : gz_G} {d : Nat} {a0 : Nat} {h : gz_H} {Q : Int32 → gz_H → Prop} (hf : gz_g (fX5_readGoose a0 h) Q) : gz_Cl G mX5_readGoose (d + 2) 0 0 [.ref a0] h (gz_qi Q) := gz_cl_of (lo := [.ref a0, .retAddr 0, .retAddr 0, .retAddr 0, .retAddr 0, .retAddr 0]) (by decide) rfl rfl (Nat.le_of_ble_eq_true rfl) (sX5_readGoose_0 a0 h hf)
theorem dX5_readFlock_0 : decode cX5_readFlock 0 = .ok (.aload_n 0, 1) := by decide +kernel
theorem dX5_readFlock_1 : decode cX5_readFlock 1 = .ok (.aload_n 1, 1) := by decide +kernel
theorem dX5_readFlock_2 : decode cX5_readFlock 2 = .ok (.putfield 9, 3) := by decide +kernel
theorem dX5_readFlock_5 : decode cX5_readFlock 5 = .ok (.aload_n 0, 1) := by decide +kernel
theorem dX5_readFlock_6 : decode cX5_readFlock 6 = .ok (.iload_n 2, 1) := by decide +kernel
theorem dX5_readFlock_7 : decode cX5_readFlock 7 = .ok (.putfield 15, 3) := by decide +kernel
theorem dX5_readFlock_10 : decode cX5_readFlock 10 = .ok (.aload_n 0, 1) := by decide +kernel
theorem dX5_readFlock_11 : decode cX5_readFlock 11 = .ok (.iconst 0, 1) := by decide +kernel
theorem dX5_readFlock_12 : decode cX5_readFlock 12 = .ok (.putfield 19, 3) := by decide +kernel
theorem dX5_readFlock_15 : decode cX5_readFlock 15 = .ok (.aload_n 0, 1) := by decide +kernel
theorem dX5_readFlock_16 : decode cX5_readFlock 16 = .ok (.aload_n 3, 1) := by decide +kernel
theorem dX5_readFlock_17 : decode cX5_readFlock 17 = .ok (.putfield 22, 3) := by decide +kernel
theorem dX5_readFlock_20 : decode cX5_readFlock 20 = .ok (.aload_n 0, 1) := by decide +kernel
theorem dX5_readFlock_21 : decode cX5_readFlock 21 = .ok (.getfield 22, 3) := by decide +kernel
theorem dX5_readFlock_24 : decode cX5_readFlock 24 = .ok (.iconst 0, 1) := by decide +kernel
theorem dX5_readFlock_25 : decode cX5_readFlock 25 = .ok (.putfield 26, 3) := by decide +kernel
theorem dX5_readFlock_28 : decode cX5_readFlock 28 = .ok (.aload_n 0, 1) := by decide +kernel
theorem dX5_readFlock_29 : decode cX5_readFlock 29 = .ok (.getfield 22, 3) := by decide +kernel
theorem dX5_readFlock_32 : decode cX5_readFlock 32 = .ok (.iconst 0, 1) := by decide +kernel
theorem dX5_readFlock_33 : decode cX5_readFlock 33 = .ok (.putfield 31, 3) := by decide +kernel
theorem dX5_readFlock_36 : decode cX5_readFlock 36 = .ok (.aload_n 0, 1) := by decide +kernel
theorem dX5_readFlock_37 : decode cX5_readFlock 37 = .ok (.invokevirtual 32, 3) := by decide +kernel
theorem dX5_readFlock_40 : decode cX5_readFlock 40 = .ok (.aload_n 0, 1) := by decide +kernel
theorem dX5_readFlock_41 : decode cX5_readFlock 41 = .ok (.invokevirtual 35, 3) := by decide +kernel
theorem dX5_readFlock_44 : decode cX5_readFlock 44 = .ok (.ifCond .ne 8, 3) := by decide +kernel
theorem dX5_readFlock_47 : decode cX5_readFlock 47 = .ok (.aload_n 0, 1) := by decide +kernel
theorem dX5_readFlock_48 : decode cX5_readFlock 48 = .ok (.getfield 19, 3) := by decide +kernel
theorem dX5_readFlock_51 : decode cX5_readFlock 51 = .ok (.ireturn, 1) := by decide +kernel
theorem dX5_readFlock_52 : decode cX5_readFlock 52 = .ok (.aload_n 0, 1) := by decide +kernel
theorem dX5_readFlock_53 : decode cX5_readFlock 53 = .ok (.invokevirtual 32, 3) := by decide +kernel
theorem dX5_readFlock_56 : decode cX5_readFlock 56 = .ok (.iconst 0, 1) := by decide +kernel
theorem dX5_readFlock_57 : decode cX5_readFlock 57 = .ok (.istore 4, 2) := by decide +kernel
theorem dX5_readFlock_59 : decode cX5_readFlock 59 = .ok (.iload 4, 2) := by decide +kernel
theorem dX5_readFlock_61 : decode cX5_readFlock 61 = .ok (.bipush 6, 2) := by decide +kernel
theorem dX5_readFlock_63 : decode cX5_readFlock 63 = .ok (.if_icmp .ge 36, 3) := by decide +kernel
theorem dX5_readFlock_66 : decode cX5_readFlock 66 = .ok (.aload_n 0, 1) := by decide +kernel
theorem dX5_readFlock_67 : decode cX5_readFlock 67 = .ok (.getfield 19, 3) := by decide +kernel
theorem dX5_readFlock_70 : decode cX5_readFlock 70 = .ok (.aload_n 0, 1) := by decide +kernel
theorem dX5_readFlock_71 : decode cX5_readFlock 71 = .ok (.getfield 15, 3) := by decide +kernel
theorem dX5_readFlock_74 : decode cX5_readFlock 74 = .ok (.if_icmp .ge 25, 3) := by decide +kernel
theorem dX5_readFlock_77 : decode cX5_readFlock 77 = .ok (.aload_n 0, 1) := by decide +kernel
theorem dX5_readFlock_78 : decode cX5_readFlock 78 = .ok (.invokevirtual 39, 3) := by decide +kernel
theorem dX5_readFlock_81 : decode cX5_readFlock 81 = .ok (.ifCond .ne 8, 3) := by decide +kernel
theorem dX5_readFlock_84 : decode cX5_readFlock 84 = .ok (.aload_n 0, 1) := by decide +kernel
theorem dX5_readFlock_85 : decode cX5_readFlock 85 = .ok (.getfield 19, 3) := by decide +kernel
theorem dX5_readFlock_88 : decode cX5_readFlock 88 = .ok (.ireturn, 1) := by decide +kernel
theorem dX5_readFlock_89 : decode cX5_readFlock 89 = .ok (.aload_n 0, 1) := by decide +kernel
theorem dX5_readFlock_90 : decode cX5_readFlock 90 = .ok (.invokevirtual 32, 3) := by decide +kernel
theorem dX5_readFlock_93 : decode cX5_readFlock 93 = .ok (.iinc 4 1, 3) := by decide +kernel
theorem dX5_readFlock_96 : decode cX5_readFlock 96 = .ok (.goto (-37), 3) := by decide +kernel
theorem dX5_readFlock_99 : decode cX5_readFlock 99 = .ok (.aload_n 0, 1) := by decide +kernel
theorem dX5_readFlock_100 : decode cX5_readFlock 100 = .ok (.getfield 19, 3) := by decide +kernel
theorem dX5_readFlock_103 : decode cX5_readFlock 103 = .ok (.aload_n 0, 1) := by decide +kernel
theorem dX5_readFlock_104 : decode cX5_readFlock 104 = .ok (.getfield 15, 3) := by decide +kernel
theorem dX5_readFlock_107 : decode cX5_readFlock 107 = .ok (.if_icmp .lt 13, 3) := by decide +kernel
theorem dX5_readFlock_110 : decode cX5_readFlock 110 = .ok (.aload_n 0, 1) := by decide +kernel
theorem dX5_readFlock_111 : decode cX5_readFlock 111 = .ok (.getfield 22, 3) := by decide +kernel
theorem dX5_readFlock_114 : decode cX5_readFlock 114 = .ok (.getfield 31, 3) := by decide +kernel
theorem dX5_readFlock_117 : decode cX5_readFlock 117 = .ok (.ifCond .ne 10, 3) := by decide +kernel
theorem dX5_readFlock_120 : decode cX5_readFlock 120 = .ok (.aload_n 0, 1) := by decide +kernel
theorem dX5_readFlock_121 : decode cX5_readFlock 121 = .ok (.getfield 19, 3) := by decide +kernel
theorem dX5_readFlock_124 : decode cX5_readFlock 124 = .ok (.goto 5, 3) := by decide +kernel
theorem dX5_readFlock_127 : decode cX5_readFlock 127 = .ok (.bipush (-9), 2) := by decide +kernel
theorem dX5_readFlock_129 : decode cX5_readFlock 129 = .ok (.ireturn, 1) := by decide +kernel
def fX5_readFlock_120  (a0 : Nat) (h : gz_H) : Option (Int32 × gz_H) :=
    gz_ck (gz_sh h a0 5 4) <|
    some (h.2.1 a0 2, h)
set_option maxRecDepth 100000 in
set_option maxHeartbeats 1000000 in
theorem sX5_readFlock_120 {G : gz_G} {d l0 s0 : Nat} {Q : Int32 → gz_H → Prop} (a0 : Nat) (h : gz_H) (hf : gz_g (fX5_readFlock_120  a0 h) Q) : gz_Ok G mX5_readFlock (d + 3, l0, s0, 0, 0) 120 [.ref a0, .retAddr 0, .retAddr 0, .retAddr 0, .retAddr 0] [] h (gz_qi Q) := by
  unfold fX5_readFlock_120 at hf
  refine gz_aload_n (pc := 120) dX5_readFlock_120 rfl rfl ?_
  refine gz_gk hf (fun c_1 hf => ?_)
  refine gz_getI (pc := 121) dX5_readFlock_121 fl_RX5_19 rfl (gz_shs c_1) ?_
  refine gz_goto (tgt := 129) (pc := 124) dX5_readFlock_124 rfl ?_
  exact gz_irt (pc := 129) dX5_readFlock_129 rfl rfl hf
def fX5_readFlock_99  (a0 : Nat) (h : gz_H) : Option (Int32 × gz_H) :=
    gz_ck (gz_sh h a0 5 4) <|
    if (h.2.1 a0 2) < (h.2.1 a0 1) then (
     fX5_readFlock_120 a0 h
    ) else (
     gz_br (h.2.2.2 a0 3) fun r_3 =>
     gz_ck (gz_sh h r_3 1 4) <|
     if (h.2.1 r_3 3) = 0 then (
      fX5_readFlock_120 a0 h
     ) else (
      some ((-9 : Int32), h)
     )
    )
set_option maxRecDepth 100000 in
set_option maxHeartbeats 1000000 in
theorem sX5_readFlock_99 {G : gz_G} {d l0 s0 : Nat} {Q : Int32 → gz_H → Prop} (a0 : Nat) (h : gz_H) (hf : gz_g (fX5_readFlock_99  a0 h) Q) : gz_Ok G mX5_readFlock (d + 3, l0, s0, 0, 0) 99 [.ref a0, .retAddr 0, .retAddr 0, .retAddr 0, .retAddr 0] [] h (gz_qi Q) := by
  unfold fX5_readFlock_99 at hf
  refine gz_aload_n (pc := 99) dX5_readFlock_99 rfl rfl ?_
  refine gz_gk hf (fun c_1 hf => ?_)
  refine gz_getI (pc := 100) dX5_readFlock_100 fl_RX5_19 rfl (gz_shs c_1) ?_
  refine gz_aload_n (pc := 103) dX5_readFlock_103 rfl rfl ?_
  refine gz_getI (pc := 104) dX5_readFlock_104 fl_RX5_15 rfl (gz_shs c_1) ?_
  refine gz_icmp_lt (tgt := 120) (pc := 107) dX5_readFlock_107 rfl (fun c_2 => ?_) (fun c_2 => ?_)
  · have hf := gz_gT hf c_2
    exact sX5_readFlock_120 a0 h hf
  · have hf := gz_gF hf c_2
    refine gz_aload_n (pc := 110) dX5_readFlock_110 rfl rfl ?_
    refine gz_gb hf (fun r_3 er_3 hf => ?_)
    refine gz_getR (pc := 111) dX5_readFlock_111 fl_RX5_22 rfl (gz_shs c_1) er_3 ?_
    refine gz_gk hf (fun c_4 hf => ?_)
    refine gz_getI (pc := 114) dX5_readFlock_114 fl_RX5_31 rfl (gz_shs c_4) ?_
    refine gz_if_ne (tgt := 127) (pc := 117) dX5_readFlock_117 rfl (fun c_5 => ?_) (fun c_5 => ?_)
    · have hf := gz_gF hf c_5
      refine gz_bipush (v := (-9 : Int32)) (pc := 127) dX5_readFlock_127 rfl ?_
      exact gz_irt (pc := 129) dX5_readFlock_129 rfl rfl hf
    · have hf := gz_gT hf c_5
      exact sX5_readFlock_120 a0 h hf
def fX5_readFlock_59  : Nat → Nat → Int32 → gz_H → Option (Int32 × gz_H)
  | 0, _, _, _ => none
  | n + 1, a0, x4, h =>
    if (6 : Int32) ≤ x4 then (
     fX5_readFlock_99 a0 h
    ) else (
     gz_ck (gz_sh h a0 5 4) <|
     if (h.2.1 a0 1) ≤ (h.2.1 a0 2) then (
      fX5_readFlock_99 a0 h
     ) else (
      gz_b2 (fX5_readGoose a0 h) fun y_5 h_4 =>
      if y_5 = 0 then (
       gz_ck (gz_sh h_4 a0 5 4) <|
       some (h_4.2.1 a0 2, h_4)
      ) else (
       gz_ck (gz_sh h_4 a0 5 4) <|
       gz_b2 (fX5_skipBlanks a0 h_4) fun _ h_7 =>
       fX5_readFlock_59 n a0 (x4 + 1) h_7
      )
     )
    )
set_option maxRecDepth 100000 in
set_option maxHeartbeats 1000000 in
theorem sX5_readFlock_59 {G : gz_G} {d l0 s0 : Nat} {Q : Int32 → gz_H → Prop} : ∀ (n : Nat) (a0 : Nat) (x4 : Int32) (h : gz_H), gz_g (fX5_readFlock_59  n a0 x4 h) Q → gz_Ok G mX5_readFlock (d + 3, l0, s0, 0, 0) 59 [.ref a0, .retAddr 0, .retAddr 0, .retAddr 0, .int x4] [] h (gz_qi Q) := by
  intro n
  induction n with
  | zero => intro a0 x4 h hf; exact False.elim hf
  | succ n ih =>
    intro a0 x4 h hf
    rw [fX5_readFlock_59] at hf
    refine gz_iload (pc := 59) dX5_readFlock_59 rfl ?_
    refine gz_bipush (v := (6 : Int32)) (pc := 61) dX5_readFlock_61 rfl ?_
    refine gz_icmp_ge (tgt := 99) (pc := 63) dX5_readFlock_63 rfl (fun c_1 => ?_) (fun c_1 => ?_)
    · have hf := gz_gT hf c_1
      refine gz_fg (lv := [.ref a0, .retAddr 0, .retAddr 0, .retAddr 0, .retAddr 0]) ⟨Or.inr rfl, ⟨Or.inl rfl, ⟨Or.inl rfl, ⟨Or.inl rfl, ⟨Or.inl rfl, trivial⟩⟩⟩⟩⟩ ?_
      exact sX5_readFlock_99 a0 h hf
    · have hf := gz_gF hf c_1
      refine gz_aload_n (pc := 66) dX5_readFlock_66 rfl rfl ?_
      refine gz_gk hf (fun c_2 hf => ?_)
      refine gz_getI (pc := 67) dX5_readFlock_67 fl_RX5_19 rfl (gz_shs c_2) ?_
      refine gz_aload_n (pc := 70) dX5_readFlock_70 rfl rfl ?_
      refine gz_getI (pc := 71) dX5_readFlock_71 fl_RX5_15 rfl (gz_shs c_2) ?_
      refine gz_icmp_ge (tgt := 99) (pc := 74) dX5_readFlock_74 rfl (fun c_3 => ?_) (fun c_3 => ?_)
      · have hf := gz_gT hf c_3
        refine gz_fg (lv := [.ref a0, .retAddr 0, .retAddr 0, .retAddr 0, .retAddr 0]) ⟨Or.inr rfl, ⟨Or.inl rfl, ⟨Or.inl rfl, ⟨Or.inl rfl, ⟨Or.inl rfl, trivial⟩⟩⟩⟩⟩ ?_
        exact sX5_readFlock_99 a0 h hf
      · have hf := gz_gF hf c_3
        refine gz_aload_n (pc := 77) dX5_readFlock_77 rfl rfl ?_
        refine gz_cVI (av := []) (st := []) (pc := 78) dX5_readFlock_78 kl_RX5_39 rfl (gz_shs c_2) rfl rfl (Nat.le_of_ble_eq_true rfl) (by show d + 0 + 2 + 1 ≤ d + 3; omega) (sX5_readGoose (d := d + 0) (gz_gc hf)) (fun y_5 h_4 hf => ?_)
        refine gz_if_ne (tgt := 89) (pc := 81) dX5_readFlock_81 rfl (fun c_6 => ?_) (fun c_6 => ?_)
        · have hf := gz_gF hf c_6
          refine gz_aload_n (pc := 89) dX5_readFlock_89 rfl rfl ?_
          refine gz_gk hf (fun c_9 hf => ?_)
          refine gz_cVV (av := []) (st := []) (pc := 90) dX5_readFlock_90 kl_RX5_32 rfl (gz_shs c_9) rfl rfl (Nat.le_of_ble_eq_true rfl) (by show d + 2 + 0 + 1 ≤ d + 3; omega) (sX5_skipBlanks (d := d + 2) (gz_gc hf)) (fun _ h_7 hf => ?_)
          refine gz_iinc (v := x4 + 1) (lv := [.ref a0, .retAddr 0, .retAddr 0, .retAddr 0, .int (x4 + 1)]) (pc := 93) dX5_readFlock_93 rfl rfl (by decide) rfl ?_
          refine gz_goto (tgt := 59) (pc := 96) dX5_readFlock_96 rfl ?_
          exact ih a0 (x4 + 1) h_7 hf
        · have hf := gz_gT hf c_6
          refine gz_aload_n (pc := 84) dX5_readFlock_84 rfl rfl ?_
          refine gz_gk hf (fun c_10 hf => ?_)
          refine gz_getI (pc := 85) dX5_readFlock_85 fl_RX5_19 rfl (gz_shs c_10) ?_
          exact gz_irt (pc := 88) dX5_readFlock_88 rfl rfl hf
def fX5_readFlock_0  (a0 : Nat) (a1 : Nat) (x2 : Int32) (a3 : Nat) (h : gz_H) : Option (Int32 × gz_H) :=
    gz_ck (gz_sh h a0 5 4) <|
    gz_lt (uR h a0 0 (some a1)) fun h_2 =>
    gz_ck (gz_sh h_2 a0 5 4) <|
    gz_lt (uI h_2 a0 1 x2) fun h_4 =>
    gz_ck (gz_sh h_4 a0 5 4) <|
    gz_lt (uI h_4 a0 2 (0 : Int32)) fun h_6 =>
    gz_ck (gz_sh h_6 a0 5 4) <|
    gz_lt (uR h_6 a0 3 (some a3)) fun h_8 =>
    gz_ck (gz_sh h_8 a0 5 4) <|
    gz_br (h_8.2.2.2 a0 3) fun r_10 =>
    gz_ck (gz_sh h_8 r_10 1 4) <|
    gz_lt (uI h_8 r_10 2 (0 : Int32)) fun h_12 =>
    gz_ck (gz_sh h_12 a0 5 4) <|
    gz_br (h_12.2.2.2 a0 3) fun r_14 =>
    gz_ck (gz_sh h_12 r_14 1 4) <|
    gz_lt (uI h_12 r_14 3 (0 : Int32)) fun h_16 =>
    gz_ck (gz_sh h_16 a0 5 4) <|
    gz_b2 (fX5_skipBlanks a0 h_16) fun _ h_17 =>
    gz_ck (gz_sh h_17 a0 5 4) <|
    gz_b2 (fX5_readVillage a0 h_17) fun y_21 h_20 =>
    if y_21 = 0 then (
     gz_ck (gz_sh h_20 a0 5 4) <|
     some (h_20.2.1 a0 2, h_20)
    ) else (
     gz_ck (gz_sh h_20 a0 5 4) <|
     gz_b2 (fX5_skipBlanks a0 h_20) fun _ h_24 =>
     fX5_readFlock_59 gz_fu a0 (0 : Int32) h_24
    )
set_option maxRecDepth 100000 in
set_option maxHeartbeats 1000000 in
theorem sX5_readFlock_0 {G : gz_G} {d l0 s0 : Nat} {Q : Int32 → gz_H → Prop} (a0 : Nat) (a1 : Nat) (x2 : Int32) (a3 : Nat) (h : gz_H) (hf : gz_g (fX5_readFlock_0  a0 a1 x2 a3 h) Q) : gz_Ok G mX5_readFlock (d + 3, l0, s0, 0, 0) 0 [.ref a0, .ref a1, .int x2, .ref a3, .retAddr 0] [] h (gz_qi Q) := by
  unfold fX5_readFlock_0 at hf
  refine gz_aload_n (pc := 0) dX5_readFlock_0 rfl rfl ?_
  refine gz_aload_n (pc := 1) dX5_readFlock_1 rfl rfl ?_
  refine gz_gk hf (fun c_1 hf => ?_)
  refine gz_putR (pc := 2) dX5_readFlock_2 fw_X5_readFlock_9 rfl (gz_shs c_1) ?_
  refine gz_nmH (fun h_2 eh_2 => ?_)
  have hf := gz_gl eh_2 hf
  refine gz_aload_n (pc := 5) dX5_readFlock_5 rfl rfl ?_
  refine gz_iload_n (pc := 6) dX5_readFlock_6 rfl rfl ?_
  refine gz_gk hf (fun c_3 hf => ?_)
  refine gz_putI (pc := 7) dX5_readFlock_7 fw_X5_readFlock_15 rfl rfl rfl (gz_shs c_3) ?_
  refine gz_nmH (fun h_4 eh_4 => ?_)
  have hf := gz_gl eh_4 hf
  refine gz_aload_n (pc := 10) dX5_readFlock_10 rfl rfl ?_
  refine gz_iconst (v := (0 : Int32)) (pc := 11) dX5_readFlock_11 rfl ?_
  refine gz_gk hf (fun c_5 hf => ?_)
  refine gz_putI (pc := 12) dX5_readFlock_12 fw_X5_readFlock_19 rfl rfl rfl (gz_shs c_5) ?_
  refine gz_nmH (fun h_6 eh_6 => ?_)
  have hf := gz_gl eh_6 hf
  refine gz_aload_n (pc := 15) dX5_readFlock_15 rfl rfl ?_
  refine gz_aload_n (pc := 16) dX5_readFlock_16 rfl rfl ?_
  refine gz_gk hf (fun c_7 hf => ?_)
  refine gz_putR (pc := 17) dX5_readFlock_17 fw_X5_readFlock_22 rfl (gz_shs c_7) ?_
  refine gz_nmH (fun h_8 eh_8 => ?_)
  have hf := gz_gl eh_8 hf
  refine gz_aload_n (pc := 20) dX5_readFlock_20 rfl rfl ?_
  refine gz_gk hf (fun c_9 hf => ?_)
  refine gz_gb hf (fun r_10 er_10 hf => ?_)
  refine gz_getR (pc := 21) dX5_readFlock_21 fl_RX5_22 rfl (gz_shs c_9) er_10 ?_
  refine gz_iconst (v := (0 : Int32)) (pc := 24) dX5_readFlock_24 rfl ?_
  refine gz_gk hf (fun c_11 hf => ?_)
  refine gz_putI (pc := 25) dX5_readFlock_25 fw_X5_readFlock_26 rfl rfl rfl (gz_shs c_11) ?_
  refine gz_nmH (fun h_12 eh_12 => ?_)
  have hf := gz_gl eh_12 hf
  refine gz_aload_n (pc := 28) dX5_readFlock_28 rfl rfl ?_
  refine gz_gk hf (fun c_13 hf => ?_)
  refine gz_gb hf (fun r_14 er_14 hf => ?_)
  refine gz_getR (pc := 29) dX5_readFlock_29 fl_RX5_22 rfl (gz_shs c_13) er_14 ?_
  refine gz_iconst (v := (0 : Int32)) (pc := 32) dX5_readFlock_32 rfl ?_
  refine gz_gk hf (fun c_15 hf => ?_)
  refine gz_putI (pc := 33) dX5_readFlock_33 fw_X5_readFlock_31 rfl rfl rfl (gz_shs c_15) ?_
  refine gz_nmH (fun h_16 eh_16 => ?_)
  have hf := gz_gl eh_16 hf
  refine gz_aload_n (pc := 36) dX5_readFlock_36 rfl rfl ?_
  refine gz_gk hf (fun c_19 hf => ?_)
  refine gz_cVV (av := []) (st := []) (pc := 37) dX5_readFlock_37 kl_RX5_32 rfl (gz_shs c_19) rfl rfl (Nat.le_of_ble_eq_true rfl) (by show d + 2 + 0 + 1 ≤ d + 3; omega) (sX5_skipBlanks (d := d + 2) (gz_gc hf)) (fun _ h_17 hf => ?_)
  refine gz_aload_n (pc := 40) dX5_readFlock_40 rfl rfl ?_
  refine gz_gk hf (fun c_22 hf => ?_)
  refine gz_cVI (av := []) (st := []) (pc := 41) dX5_readFlock_41 kl_RX5_35 rfl (gz_shs c_22) rfl rfl (Nat.le_of_ble_eq_true rfl) (by show d + 1 + 1 + 1 ≤ d + 3; omega) (sX5_readVillage (d := d + 1) (gz_gc hf)) (fun y_21 h_20 hf => ?_)
  refine gz_if_ne (tgt := 52) (pc := 44) dX5_readFlock_44 rfl (fun c_23 => ?_) (fun c_23 => ?_)
  · have hf := gz_gF hf c_23
    refine gz_aload_n (pc := 52) dX5_readFlock_52 rfl rfl ?_
    refine gz_gk hf (fun c_26 hf => ?_)
    refine gz_cVV (av := []) (st := []) (pc := 53) dX5_readFlock_53 kl_RX5_32 rfl (gz_shs c_26) rfl rfl (Nat.le_of_ble_eq_true rfl) (by show d + 2 + 0 + 1 ≤ d + 3; omega) (sX5_skipBlanks (d := d + 2) (gz_gc hf)) (fun _ h_24 hf => ?_)
    refine gz_iconst (v := (0 : Int32)) (pc := 56) dX5_readFlock_56 rfl ?_
    refine gz_istore (lv := [.ref a0, .ref a1, .int x2, .ref a3, .int (0 : Int32)]) (pc := 57) dX5_readFlock_57 (by decide) rfl ?_
    refine gz_fg (lv := [.ref a0, .retAddr 0, .retAddr 0, .retAddr 0, .int (0 : Int32)]) ⟨Or.inr rfl, ⟨Or.inl rfl, ⟨Or.inl rfl, ⟨Or.inl rfl, ⟨Or.inr rfl, trivial⟩⟩⟩⟩⟩ ?_
    exact sX5_readFlock_59 gz_fu a0 (0 : Int32) h_24 hf
  · have hf := gz_gT hf c_23
    refine gz_aload_n (pc := 47) dX5_readFlock_47 rfl rfl ?_
    refine gz_gk hf (fun c_27 hf => ?_)
    refine gz_getI (pc := 48) dX5_readFlock_48 fl_RX5_19 rfl (gz_shs c_27) ?_
    exact gz_irt (pc := 51) dX5_readFlock_51 rfl rfl hf
def fX5_readFlock (a0 : Nat) (a1 : Nat) (x2 : Int32) (a3 : Nat) (h : gz_H) : Option (Int32 × gz_H) := fX5_readFlock_0 a0 a1 x2 a3 h
theorem sX5_readFlock {G : gz_G} {d : Nat} {a0 : Nat} {a1 : Nat} {x2 : Int32} {a3 : Nat} {h : gz_H} {Q : Int32 → gz_H → Prop} (hf : gz_g (fX5_readFlock a0 a1 x2 a3 h) Q) : gz_Cl G mX5_readFlock (d + 3) 0 0 [.ref a0, .ref a1, .int x2, .ref a3] h (gz_qi Q) := gz_cl_of (lo := [.ref a0, .ref a1, .int x2, .ref a3, .retAddr 0]) (by decide) rfl rfl (Nat.le_of_ble_eq_true rfl) (sX5_readFlock_0 a0 a1 x2 a3 h hf)
theorem dX6_init_0 : decode cX6_init 0 = .ok (.aload_n 0, 1) := by decide +kernel
theorem dX6_init_1 : decode cX6_init 1 = .ok (.invokespecial 3, 3) := by decide +kernel
theorem dX6_init_4 : decode cX6_init 4 = .ok (.aload_n 0, 1) := by decide +kernel
theorem dX6_init_5 : decode cX6_init 5 = .ok (.bipush 6, 2) := by decide +kernel
theorem dX6_init_7 : decode cX6_init 7 = .ok (.newarray .int, 2) := by decide +kernel
theorem dX6_init_9 : decode cX6_init 9 = .ok (.putfield 9, 3) := by decide +kernel
theorem dX6_init_12 : decode cX6_init 12 = .ok (.return_, 1) := by decide +kernel
def fX6_init_0 (l0 s0 mc ms : Nat) (a0 : Nat) (h : gz_H) : Option (Unit × gz_H) :=
    gz_ck (gz_dc (¬ (6 : Int32) < 0 ∧ h.1.length < 999999 ∧ (6 : Int32).toNatClampNeg ≤ 100000 ∧ (h.1.length + 1 ≤ l0 + mc ∧ gz_ss h.1 + (6 : Int32).toNatClampNeg ≤ s0 + ms))) <|
    gz_lt (gz_al h (10, (6 : Int32).toNatClampNeg)) fun h_2 =>
    gz_ck (gz_sh h_2 a0 6 2) <|
    gz_lt (uR h_2 a0 0 (some h.1.length)) fun h_4 =>
    gz_ck (gz_dc (l0 + mc = h_4.1.length ∧ s0 + ms = gz_ss h_4.1)) <|
    some ((), h_4)
set_option maxRecDepth 100000 in
set_option maxHeartbeats 1000000 in
theorem sX6_init_0 {G : gz_G} {d l0 s0 mc ms : Nat} {Q : Unit → gz_H → Prop} (a0 : Nat) (h : gz_H) (hf : gz_g (fX6_init_0 l0 s0 mc ms a0 h) Q) : gz_Ok G mX6_init (d + 1, l0, s0, mc, ms) 0 [.ref a0] [] h (gz_qu Q) := by
  unfold fX6_init_0 at hf
  refine gz_aload_n (pc := 0) dX6_init_0 rfl rfl ?_
  refine gz_obj (pc := 1) dX6_init_1 kob_RX6_3 (by show 1 ≤ d + 1; omega) (Nat.le_of_ble_eq_true rfl) ?_
  refine gz_aload_n (pc := 4) dX6_init_4 rfl rfl ?_
  refine gz_bipush (v := (6 : Int32)) (pc := 5) dX6_init_5 rfl ?_
  refine gz_gk hf (fun c_1 hf => ?_)
  refine gz_newi (pc := 7) dX6_init_7 kw_int (gz_dcs c_1).1 (gz_dcs c_1).2.1 (gz_dcs c_1).2.2.1 (gz_dcs c_1).2.2.2 ?_
  refine gz_nmH (fun h_2 eh_2 => ?_)
  have hf := gz_gl eh_2 hf
  refine gz_gk hf (fun c_3 hf => ?_)
  refine gz_putR (pc := 9) dX6_init_9 fw_X6_init_9 rfl (gz_shs c_3) ?_
  refine gz_nmH (fun h_4 eh_4 => ?_)
  have hf := gz_gl eh_4 hf
  refine gz_gk hf (fun c_5 hf => ?_)
  exact gz_uretA (pc := 12) dX6_init_12 rfl (gz_dcs c_5).1 (gz_dcs c_5).2 hf
def fX6_init (mc ms : Nat) (a0 : Nat) (h : gz_H) : Option (Unit × gz_H) := fX6_init_0 h.1.length (gz_ss h.1) mc ms a0 h
theorem sX6_init {G : gz_G} {d mc ms : Nat} {a0 : Nat} {h : gz_H} {Q : Unit → gz_H → Prop} (hf : gz_g (fX6_init mc ms a0 h) Q) : gz_Cl G mX6_init (d + 1) mc ms [.ref a0] h (gz_qu Q) := gz_cl_of (lo := [.ref a0]) (by decide) rfl rfl (Nat.le_of_ble_eq_true rfl) (sX6_init_0 a0 h hf)
theorem dJ7_fill_53178_0 : decode cJ7_fill_53178 0 = .ok (.iconst 0, 1) := by decide +kernel
theorem dJ7_fill_53178_1 : decode cJ7_fill_53178 1 = .ok (.istore_n 2, 1) := by decide +kernel
theorem dJ7_fill_53178_2 : decode cJ7_fill_53178 2 = .ok (.aload_n 0, 1) := by decide +kernel
theorem dJ7_fill_53178_3 : decode cJ7_fill_53178 3 = .ok (.arraylength, 1) := by decide +kernel
theorem dJ7_fill_53178_4 : decode cJ7_fill_53178 4 = .ok (.istore_n 3, 1) := by decide +kernel
theorem dJ7_fill_53178_5 : decode cJ7_fill_53178 5 = .ok (.iload_n 2, 1) := by decide +kernel
theorem dJ7_fill_53178_6 : decode cJ7_fill_53178 6 = .ok (.iload_n 3, 1) := by decide +kernel
theorem dJ7_fill_53178_7 : decode cJ7_fill_53178 7 = .ok (.if_icmp .ge 13, 3) := by decide +kernel
theorem dJ7_fill_53178_10 : decode cJ7_fill_53178 10 = .ok (.aload_n 0, 1) := by decide +kernel
theorem dJ7_fill_53178_11 : decode cJ7_fill_53178 11 = .ok (.iload_n 2, 1) := by decide +kernel
theorem dJ7_fill_53178_12 : decode cJ7_fill_53178 12 = .ok (.iload_n 1, 1) := by decide +kernel
theorem dJ7_fill_53178_13 : decode cJ7_fill_53178 13 = .ok (.iastore, 1) := by decide +kernel
theorem dJ7_fill_53178_14 : decode cJ7_fill_53178 14 = .ok (.iinc 2 1, 3) := by decide +kernel
theorem dJ7_fill_53178_17 : decode cJ7_fill_53178 17 = .ok (.goto (-12), 3) := by decide +kernel
theorem dJ7_fill_53178_20 : decode cJ7_fill_53178 20 = .ok (.return_, 1) := by decide +kernel
def fJ7_fill_53178_5  : Nat → Nat → Int32 → Int32 → Int32 → gz_H → Option (Unit × gz_H)
  | 0, _, _, _, _, _ => none
  | n + 1, a0, x1, x2, x3, h =>
    if x3 ≤ x2 then (
     some ((), h)
    ) else (
     gz_ck (gz_inb h a0 10 x2) <|
     gz_lt (uI h a0 x2.toNatClampNeg x1) fun h_3 =>
     fJ7_fill_53178_5 n a0 x1 (x2 + 1) x3 h_3
    )
set_option maxRecDepth 100000 in
set_option maxHeartbeats 1000000 in
theorem sJ7_fill_53178_5 {G : gz_G} {d l0 s0 : Nat} {Q : Unit → gz_H → Prop} : ∀ (n : Nat) (a0 : Nat) (x1 : Int32) (x2 : Int32) (x3 : Int32) (h : gz_H), gz_g (fJ7_fill_53178_5  n a0 x1 x2 x3 h) Q → gz_Ok G mJ7_fill_53178 (d + 0, l0, s0, 0, 0) 5 [.ref a0, .int x1, .int x2, .int x3] [] h (gz_qu Q) := by
  intro n
  induction n with
  | zero => intro a0 x1 x2 x3 h hf; exact False.elim hf
  | succ n ih =>
    intro a0 x1 x2 x3 h hf
    rw [fJ7_fill_53178_5] at hf
    refine gz_iload_n (pc := 5) dJ7_fill_53178_5 rfl rfl ?_
    refine gz_iload_n (pc := 6) dJ7_fill_53178_6 rfl rfl ?_
    refine gz_icmp_ge (tgt := 20) (pc := 7) dJ7_fill_53178_7 rfl (fun c_1 => ?_) (fun c_1 => ?_)
    · have hf := gz_gT hf c_1
      exact gz_uret (pc := 20) dJ7_fill_53178_20 rfl hf
    · have hf := gz_gF hf c_1
      refine gz_aload_n (pc := 10) dJ7_fill_53178_10 rfl rfl ?_
      refine gz_iload_n (pc := 11) dJ7_fill_53178_11 rfl rfl ?_
      refine gz_iload_n (pc := 12) dJ7_fill_53178_12 rfl rfl ?_
      refine gz_gk hf (fun c_2 hf => ?_)
      refine gz_iast (pc := 13) dJ7_fill_53178_13 c_2 ?_
      refine gz_nmH (fun h_3 eh_3 => ?_)
      have hf := gz_gl eh_3 hf
      refine gz_iinc (v := x2 + 1) (lv := [.ref a0, .int x1, .int (x2 + 1), .int x3]) (pc := 14) dJ7_fill_53178_14 rfl rfl (by decide) rfl ?_
      refine gz_goto (tgt := 5) (pc := 17) dJ7_fill_53178_17 rfl ?_
      exact ih a0 x1 (x2 + 1) x3 h_3 hf
def fJ7_fill_53178_0  (a0 : Nat) (x1 : Int32) (h : gz_H) : Option (Unit × gz_H) :=
    gz_bi (gz_len h a0) fun y_1 =>
    fJ7_fill_53178_5 gz_fu a0 x1 (0 : Int32) y_1 h
set_option maxRecDepth 100000 in
set_option maxHeartbeats 1000000 in
theorem sJ7_fill_53178_0 {G : gz_G} {d l0 s0 : Nat} {Q : Unit → gz_H → Prop} (a0 : Nat) (x1 : Int32) (h : gz_H) (hf : gz_g (fJ7_fill_53178_0  a0 x1 h) Q) : gz_Ok G mJ7_fill_53178 (d + 0, l0, s0, 0, 0) 0 [.ref a0, .int x1, .retAddr 0, .retAddr 0] [] h (gz_qu Q) := by
  unfold fJ7_fill_53178_0 at hf
  refine gz_iconst (v := (0 : Int32)) (pc := 0) dJ7_fill_53178_0 rfl ?_
  refine gz_istore_n (lv := [.ref a0, .int x1, .int (0 : Int32), .retAddr 0]) (pc := 1) dJ7_fill_53178_1 rfl (by decide) rfl ?_
  refine gz_aload_n (pc := 2) dJ7_fill_53178_2 rfl rfl ?_
  refine gz_gi hf (fun y_1 ey_1 hf => ?_)
  refine gz_alen (pc := 3) dJ7_fill_53178_3 ey_1 ?_
  refine gz_istore_n (lv := [.ref a0, .int x1, .int (0 : Int32), .int y_1]) (pc := 4) dJ7_fill_53178_4 rfl (by decide) rfl ?_
  exact sJ7_fill_53178_5 gz_fu a0 x1 (0 : Int32) y_1 h hf
def fJ7_fill_53178 (a0 : Nat) (x1 : Int32) (h : gz_H) : Option (Unit × gz_H) := fJ7_fill_53178_0 a0 x1 h
theorem sJ7_fill_53178 {G : gz_G} {d : Nat} {a0 : Nat} {x1 : Int32} {h : gz_H} {Q : Unit → gz_H → Prop} (hf : gz_g (fJ7_fill_53178 a0 x1 h) Q) : gz_Cl G mJ7_fill_53178 (d + 0) 0 0 [.ref a0, .int x1] h (gz_qu Q) := gz_cl_of (lo := [.ref a0, .int x1, .retAddr 0, .retAddr 0]) (by decide) rfl rfl (Nat.le_of_ble_eq_true rfl) (sJ7_fill_53178_0 a0 x1 h hf)
theorem dX6_readPairs_0 : decode cX6_readPairs 0 = .ok (.aload_n 0, 1) := by decide +kernel
theorem dX6_readPairs_1 : decode cX6_readPairs 1 = .ok (.getfield 9, 3) := by decide +kernel
theorem dX6_readPairs_4 : decode cX6_readPairs 4 = .ok (.iconst (-1), 1) := by decide +kernel
theorem dX6_readPairs_5 : decode cX6_readPairs 5 = .ok (.invokestatic 15, 3) := by decide +kernel
theorem dX6_readPairs_8 : decode cX6_readPairs 8 = .ok (.aload_n 0, 1) := by decide +kernel
theorem dX6_readPairs_9 : decode cX6_readPairs 9 = .ok (.iconst 0, 1) := by decide +kernel
theorem dX6_readPairs_10 : decode cX6_readPairs 10 = .ok (.putfield 21, 3) := by decide +kernel
theorem dX6_readPairs_13 : decode cX6_readPairs 13 = .ok (.iconst 0, 1) := by decide +kernel
theorem dX6_readPairs_14 : decode cX6_readPairs 14 = .ok (.istore_n 3, 1) := by decide +kernel
theorem dX6_readPairs_15 : decode cX6_readPairs 15 = .ok (.iload_n 3, 1) := by decide +kernel
theorem dX6_readPairs_16 : decode cX6_readPairs 16 = .ok (.iconst 1, 1) := by decide +kernel
theorem dX6_readPairs_17 : decode cX6_readPairs 17 = .ok (.iadd, 1) := by decide +kernel
theorem dX6_readPairs_18 : decode cX6_readPairs 18 = .ok (.iload_n 2, 1) := by decide +kernel
theorem dX6_readPairs_19 : decode cX6_readPairs 19 = .ok (.if_icmp .ge 57, 3) := by decide +kernel
theorem dX6_readPairs_22 : decode cX6_readPairs 22 = .ok (.aload_n 1, 1) := by decide +kernel
theorem dX6_readPairs_23 : decode cX6_readPairs 23 = .ok (.iload_n 3, 1) := by decide +kernel
theorem dX6_readPairs_24 : decode cX6_readPairs 24 = .ok (.iaload, 1) := by decide +kernel
theorem dX6_readPairs_25 : decode cX6_readPairs 25 = .ok (.istore 4, 2) := by decide +kernel
theorem dX6_readPairs_27 : decode cX6_readPairs 27 = .ok (.aload_n 0, 1) := by decide +kernel
theorem dX6_readPairs_28 : decode cX6_readPairs 28 = .ok (.getfield 9, 3) := by decide +kernel
theorem dX6_readPairs_31 : decode cX6_readPairs 31 = .ok (.iload 4, 2) := by decide +kernel
theorem dX6_readPairs_33 : decode cX6_readPairs 33 = .ok (.iaload, 1) := by decide +kernel
theorem dX6_readPairs_34 : decode cX6_readPairs 34 = .ok (.iconst (-1), 1) := by decide +kernel
theorem dX6_readPairs_35 : decode cX6_readPairs 35 = .ok (.if_icmp .eq 23, 3) := by decide +kernel
theorem dX6_readPairs_38 : decode cX6_readPairs 38 = .ok (.aload_n 0, 1) := by decide +kernel
theorem dX6_readPairs_39 : decode cX6_readPairs 39 = .ok (.getfield 9, 3) := by decide +kernel
theorem dX6_readPairs_42 : decode cX6_readPairs 42 = .ok (.iload 4, 2) := by decide +kernel
theorem dX6_readPairs_44 : decode cX6_readPairs 44 = .ok (.iaload, 1) := by decide +kernel
theorem dX6_readPairs_45 : decode cX6_readPairs 45 = .ok (.aload_n 1, 1) := by decide +kernel
theorem dX6_readPairs_46 : decode cX6_readPairs 46 = .ok (.iload_n 3, 1) := by decide +kernel
theorem dX6_readPairs_47 : decode cX6_readPairs 47 = .ok (.iconst 1, 1) := by decide +kernel
theorem dX6_readPairs_48 : decode cX6_readPairs 48 = .ok (.iadd, 1) := by decide +kernel
theorem dX6_readPairs_49 : decode cX6_readPairs 49 = .ok (.iaload, 1) := by decide +kernel
theorem dX6_readPairs_50 : decode cX6_readPairs 50 = .ok (.if_icmp .eq 8, 3) := by decide +kernel
theorem dX6_readPairs_53 : decode cX6_readPairs 53 = .ok (.aload_n 0, 1) := by decide +kernel
theorem dX6_readPairs_54 : decode cX6_readPairs 54 = .ok (.iconst 1, 1) := by decide +kernel
theorem dX6_readPairs_55 : decode cX6_readPairs 55 = .ok (.putfield 21, 3) := by decide +kernel
theorem dX6_readPairs_58 : decode cX6_readPairs 58 = .ok (.aload_n 0, 1) := by decide +kernel
theorem dX6_readPairs_59 : decode cX6_readPairs 59 = .ok (.getfield 9, 3) := by decide +kernel
theorem dX6_readPairs_62 : decode cX6_readPairs 62 = .ok (.iload 4, 2) := by decide +kernel
theorem dX6_readPairs_64 : decode cX6_readPairs 64 = .ok (.aload_n 1, 1) := by decide +kernel
theorem dX6_readPairs_65 : decode cX6_readPairs 65 = .ok (.iload_n 3, 1) := by decide +kernel
theorem dX6_readPairs_66 : decode cX6_readPairs 66 = .ok (.iconst 1, 1) := by decide +kernel
theorem dX6_readPairs_67 : decode cX6_readPairs 67 = .ok (.iadd, 1) := by decide +kernel
theorem dX6_readPairs_68 : decode cX6_readPairs 68 = .ok (.iaload, 1) := by decide +kernel
theorem dX6_readPairs_69 : decode cX6_readPairs 69 = .ok (.iastore, 1) := by decide +kernel
theorem dX6_readPairs_70 : decode cX6_readPairs 70 = .ok (.iinc 3 2, 3) := by decide +kernel
theorem dX6_readPairs_73 : decode cX6_readPairs 73 = .ok (.goto (-58), 3) := by decide +kernel
theorem dX6_readPairs_76 : decode cX6_readPairs 76 = .ok (.return_, 1) := by decide +kernel
def fX6_readPairs_58 (k15 : Nat → Nat → Int32 → Int32 → gz_H → Option (Unit × gz_H)) (a0 : Nat) (a1 : Nat) (x2 : Int32) (x3 : Int32) (x4 : Int32) (h : gz_H) : Option (Unit × gz_H) :=
    gz_ck (gz_sh h a0 6 2) <|
    gz_br (h.2.2.2 a0 0) fun r_2 =>
    gz_ck (gz_inb h a1 10 (x3 + (1 : Int32))) <|
    gz_ck (gz_inb h r_2 10 x4) <|
    gz_lt (uI h r_2 x4.toNatClampNeg (h.2.1 a1 (x3 + (1 : Int32)).toNatClampNeg)) fun h_5 =>
    k15 a0 a1 x2 (x3 + 2) h_5
set_option maxRecDepth 100000 in
set_option maxHeartbeats 1000000 in
theorem sX6_readPairs_58 {G : gz_G} {d l0 s0 : Nat} {Q : Unit → gz_H → Prop} {k15 : Nat → Nat → Int32 → Int32 → gz_H → Option (Unit × gz_H)} (hk15 : ∀ (a0 : Nat) (a1 : Nat) (x2 : Int32) (x3 : Int32) (h : gz_H), gz_g (k15 a0 a1 x2 x3 h) Q → gz_Ok G mX6_readPairs (d + 1, l0, s0, 0, 0) 15 [.ref a0, .ref a1, .int x2, .int x3, .retAddr 0] [] h (gz_qu Q)) (a0 : Nat) (a1 : Nat) (x2 : Int32) (x3 : Int32) (x4 : Int32) (h : gz_H) (hf : gz_g (fX6_readPairs_58 k15 a0 a1 x2 x3 x4 h) Q) : gz_Ok G mX6_readPairs (d + 1, l0, s0, 0, 0) 58 [.ref a0, .ref a1, .int x2, .int x3, .int x4] [] h (gz_qu Q) := by
  unfold fX6_readPairs_58 at hf
  refine gz_aload_n (pc := 58) dX6_readPairs_58 rfl rfl ?_
  refine gz_gk hf (fun c_1 hf => ?_)
  refine gz_gb hf (fun r_2 er_2 hf => ?_)
  refine gz_getR (pc := 59) dX6_readPairs_59 fl_RX6_9 rfl (gz_shs c_1) er_2 ?_
  refine gz_iload (pc := 62) dX6_readPairs_62 rfl ?_
  refine gz_aload_n (pc := 64) dX6_readPairs_64 rfl rfl ?_
  refine gz_iload_n (pc := 65) dX6_readPairs_65 rfl rfl ?_
  refine gz_iconst (v := (1 : Int32)) (pc := 66) dX6_readPairs_66 rfl ?_
  refine gz_iadd (pc := 67) dX6_readPairs_67 ?_
  refine gz_gk hf (fun c_3 hf => ?_)
  refine gz_iald (pc := 68) dX6_readPairs_68 c_3 ?_
  refine gz_gk hf (fun c_4 hf => ?_)
  refine gz_iast (pc := 69) dX6_readPairs_69 c_4 ?_
  refine gz_nmH (fun h_5 eh_5 => ?_)
  have hf := gz_gl eh_5 hf
  refine gz_iinc (v := x3 + 2) (lv := [.ref a0, .ref a1, .int x2, .int (x3 + 2), .int x4]) (pc := 70) dX6_readPairs_70 rfl rfl (by decide) rfl ?_
  refine gz_goto (tgt := 15) (pc := 73) dX6_readPairs_73 rfl ?_
  refine gz_fg (lv := [.ref a0, .ref a1, .int x2, .int (x3 + 2), .retAddr 0]) ⟨Or.inr rfl, ⟨Or.inr rfl, ⟨Or.inr rfl, ⟨Or.inr rfl, ⟨Or.inl rfl, trivial⟩⟩⟩⟩⟩ ?_
  exact hk15 a0 a1 x2 (x3 + 2) h_5 hf
def fX6_readPairs_15  : Nat → Nat → Nat → Int32 → Int32 → gz_H → Option (Unit × gz_H)
  | 0, _, _, _, _, _ => none
  | n + 1, a0, a1, x2, x3, h =>
    if x2 ≤ (x3 + (1 : Int32)) then (
     some ((), h)
    ) else (
     gz_ck (gz_inb h a1 10 x3) <|
     gz_ck (gz_sh h a0 6 2) <|
     gz_br (h.2.2.2 a0 0) fun r_4 =>
     gz_ck (gz_inb h r_4 10 (h.2.1 a1 x3.toNatClampNeg)) <|
     if (h.2.1 r_4 (h.2.1 a1 x3.toNatClampNeg).toNatClampNeg) = (-1 : Int32) then (
      fX6_readPairs_58 (fun z0 z1 z2 z3 zh => fX6_readPairs_15 n z0 z1 z2 z3 zh) a0 a1 x2 x3 (h.2.1 a1 x3.toNatClampNeg) h
     ) else (
      gz_ck (gz_inb h a1 10 (x3 + (1 : Int32))) <|
      if (h.2.1 r_4 (h.2.1 a1 x3.toNatClampNeg).toNatClampNeg) = (h.2.1 a1 (x3 + (1 : Int32)).toNatClampNeg) then (
       fX6_readPairs_58 (fun z0 z1 z2 z3 zh => fX6_readPairs_15 n z0 z1 z2 z3 zh) a0 a1 x2 x3 (h.2.1 a1 x3.toNatClampNeg) h
      ) else (
       gz_lt (uI h a0 1 (1 : Int32)) fun h_9 =>
       fX6_readPairs_58 (fun z0 z1 z2 z3 zh => fX6_readPairs_15 n z0 z1 z2 z3 zh) a0 a1 x2 x3 (h.2.1 a1 x3.toNatClampNeg) h_9
      )
     )
    )
set_option maxRecDepth 100000 in
set_option maxHeartbeats 1000000 in
theorem sX6_readPairs_15 {G : gz_G} {d l0 s0 : Nat} {Q : Unit → gz_H → Prop} : ∀ (n : Nat) (a0 : Nat) (a1 : Nat) (x2 : Int32) (x3 : Int32) (h : gz_H), gz_g (fX6_readPairs_15  n a0 a1 x2 x3 h) Q → gz_Ok G mX6_readPairs (d + 1, l0, s0, 0, 0) 15 [.ref a0, .ref a1, .int x2, .int x3, .retAddr 0] [] h (gz_qu Q) := by
  intro n
  induction n with
  | zero => intro a0 a1 x2 x3 h hf; exact False.elim hf
  | succ n ih =>
    intro a0 a1 x2 x3 h hf
    rw [fX6_readPairs_15] at hf
    refine gz_iload_n (pc := 15) dX6_readPairs_15 rfl rfl ?_
    refine gz_iconst (v := (1 : Int32)) (pc := 16) dX6_readPairs_16 rfl ?_
    refine gz_iadd (pc := 17) dX6_readPairs_17 ?_
    refine gz_iload_n (pc := 18) dX6_readPairs_18 rfl rfl ?_
    refine gz_icmp_ge (tgt := 76) (pc := 19) dX6_readPairs_19 rfl (fun c_1 => ?_) (fun c_1 => ?_)
    · have hf := gz_gT hf c_1
      exact gz_uret (pc := 76) dX6_readPairs_76 rfl hf
    · have hf := gz_gF hf c_1
      refine gz_aload_n (pc := 22) dX6_readPairs_22 rfl rfl ?_
      refine gz_iload_n (pc := 23) dX6_readPairs_23 rfl rfl ?_
      refine gz_gk hf (fun c_2 hf => ?_)
      refine gz_iald (pc := 24) dX6_readPairs_24 c_2 ?_
      refine gz_istore (lv := [.ref a0, .ref a1, .int x2, .int x3, .int (h.2.1 a1 x3.toNatClampNeg)]) (pc := 25) dX6_readPairs_25 (by decide) rfl ?_
      refine gz_aload_n (pc := 27) dX6_readPairs_27 rfl rfl ?_
      refine gz_gk hf (fun c_3 hf => ?_)
      refine gz_gb hf (fun r_4 er_4 hf => ?_)
      refine gz_getR (pc := 28) dX6_readPairs_28 fl_RX6_9 rfl (gz_shs c_3) er_4 ?_
      refine gz_iload (pc := 31) dX6_readPairs_31 rfl ?_
      refine gz_gk hf (fun c_5 hf => ?_)
      refine gz_iald (pc := 33) dX6_readPairs_33 c_5 ?_
      refine gz_iconst (v := (-1 : Int32)) (pc := 34) dX6_readPairs_34 rfl ?_
      refine gz_icmp_eq (tgt := 58) (pc := 35) dX6_readPairs_35 rfl (fun c_6 => ?_) (fun c_6 => ?_)
      · have hf := gz_gT hf c_6
        exact sX6_readPairs_58 ih a0 a1 x2 x3 (h.2.1 a1 x3.toNatClampNeg) h hf
      · have hf := gz_gF hf c_6
        refine gz_aload_n (pc := 38) dX6_readPairs_38 rfl rfl ?_
        refine gz_getR (pc := 39) dX6_readPairs_39 fl_RX6_9 rfl (gz_shs c_3) er_4 ?_
        refine gz_iload (pc := 42) dX6_readPairs_42 rfl ?_
        refine gz_iald (pc := 44) dX6_readPairs_44 c_5 ?_
        refine gz_aload_n (pc := 45) dX6_readPairs_45 rfl rfl ?_
        refine gz_iload_n (pc := 46) dX6_readPairs_46 rfl rfl ?_
        refine gz_iconst (v := (1 : Int32)) (pc := 47) dX6_readPairs_47 rfl ?_
        refine gz_iadd (pc := 48) dX6_readPairs_48 ?_
        refine gz_gk hf (fun c_7 hf => ?_)
        refine gz_iald (pc := 49) dX6_readPairs_49 c_7 ?_
        refine gz_icmp_eq (tgt := 58) (pc := 50) dX6_readPairs_50 rfl (fun c_8 => ?_) (fun c_8 => ?_)
        · have hf := gz_gT hf c_8
          exact sX6_readPairs_58 ih a0 a1 x2 x3 (h.2.1 a1 x3.toNatClampNeg) h hf
        · have hf := gz_gF hf c_8
          refine gz_aload_n (pc := 53) dX6_readPairs_53 rfl rfl ?_
          refine gz_iconst (v := (1 : Int32)) (pc := 54) dX6_readPairs_54 rfl ?_
          refine gz_putI (pc := 55) dX6_readPairs_55 fw_X6_readPairs_21 rfl rfl rfl (gz_shs c_3) ?_
          refine gz_nmH (fun h_9 eh_9 => ?_)
          have hf := gz_gl eh_9 hf
          exact sX6_readPairs_58 ih a0 a1 x2 x3 (h.2.1 a1 x3.toNatClampNeg) h_9 hf
def fX6_readPairs_0  (a0 : Nat) (a1 : Nat) (x2 : Int32) (h : gz_H) : Option (Unit × gz_H) :=
    gz_ck (gz_sh h a0 6 2) <|
    gz_br (h.2.2.2 a0 0) fun r_2 =>
    gz_b2 (fJ7_fill_53178 r_2 (-1 : Int32) h) fun _ h_3 =>
    gz_ck (gz_sh h_3 a0 6 2) <|
    gz_lt (uI h_3 a0 1 (0 : Int32)) fun h_6 =>
    fX6_readPairs_15 gz_fu a0 a1 x2 (0 : Int32) h_6
set_option maxRecDepth 100000 in
set_option maxHeartbeats 1000000 in
theorem sX6_readPairs_0 {G : gz_G} {d l0 s0 : Nat} {Q : Unit → gz_H → Prop} (a0 : Nat) (a1 : Nat) (x2 : Int32) (h : gz_H) (hf : gz_g (fX6_readPairs_0  a0 a1 x2 h) Q) : gz_Ok G mX6_readPairs (d + 1, l0, s0, 0, 0) 0 [.ref a0, .ref a1, .int x2, .retAddr 0, .retAddr 0] [] h (gz_qu Q) := by
  unfold fX6_readPairs_0 at hf
  refine gz_aload_n (pc := 0) dX6_readPairs_0 rfl rfl ?_
  refine gz_gk hf (fun c_1 hf => ?_)
  refine gz_gb hf (fun r_2 er_2 hf => ?_)
  refine gz_getR (pc := 1) dX6_readPairs_1 fl_RX6_9 rfl (gz_shs c_1) er_2 ?_
  refine gz_iconst (v := (-1 : Int32)) (pc := 4) dX6_readPairs_4 rfl ?_
  refine gz_cSV (av := [.ref r_2, .int (-1 : Int32)]) (st := []) (pc := 5) dX6_readPairs_5 kl_RX6_15 rfl rfl (Nat.le_of_ble_eq_true rfl) (by show d + 0 + 0 + 1 ≤ d + 1; omega) (sJ7_fill_53178 (d := d + 0) (gz_gc hf)) (fun _ h_3 hf => ?_)
  refine gz_aload_n (pc := 8) dX6_readPairs_8 rfl rfl ?_
  refine gz_iconst (v := (0 : Int32)) (pc := 9) dX6_readPairs_9 rfl ?_
  refine gz_gk hf (fun c_5 hf => ?_)
  refine gz_putI (pc := 10) dX6_readPairs_10 fw_X6_readPairs_21 rfl rfl rfl (gz_shs c_5) ?_
  refine gz_nmH (fun h_6 eh_6 => ?_)
  have hf := gz_gl eh_6 hf
  refine gz_iconst (v := (0 : Int32)) (pc := 13) dX6_readPairs_13 rfl ?_
  refine gz_istore_n (lv := [.ref a0, .ref a1, .int x2, .int (0 : Int32), .retAddr 0]) (pc := 14) dX6_readPairs_14 rfl (by decide) rfl ?_
  exact sX6_readPairs_15 gz_fu a0 a1 x2 (0 : Int32) h_6 hf
def fX6_readPairs (a0 : Nat) (a1 : Nat) (x2 : Int32) (h : gz_H) : Option (Unit × gz_H) := fX6_readPairs_0 a0 a1 x2 h
theorem sX6_readPairs {G : gz_G} {d : Nat} {a0 : Nat} {a1 : Nat} {x2 : Int32} {h : gz_H} {Q : Unit → gz_H → Prop} (hf : gz_g (fX6_readPairs a0 a1 x2 h) Q) : gz_Cl G mX6_readPairs (d + 1) 0 0 [.ref a0, .ref a1, .int x2] h (gz_qu Q) := gz_cl_of (lo := [.ref a0, .ref a1, .int x2, .retAddr 0, .retAddr 0]) (by decide) rfl rfl (Nat.le_of_ble_eq_true rfl) (sX6_readPairs_0 a0 a1 x2 h hf)
theorem dX6_fits_0 : decode cX6_fits 0 = .ok (.aload_n 0, 1) := by decide +kernel
theorem dX6_fits_1 : decode cX6_fits 1 = .ok (.getfield 21, 3) := by decide +kernel
theorem dX6_fits_4 : decode cX6_fits 4 = .ok (.ifCond .eq 5, 3) := by decide +kernel
theorem dX6_fits_7 : decode cX6_fits 7 = .ok (.iconst 0, 1) := by decide +kernel
theorem dX6_fits_8 : decode cX6_fits 8 = .ok (.ireturn, 1) := by decide +kernel
theorem dX6_fits_9 : decode cX6_fits 9 = .ok (.iconst 0, 1) := by decide +kernel
theorem dX6_fits_10 : decode cX6_fits 10 = .ok (.istore 4, 2) := by decide +kernel
theorem dX6_fits_12 : decode cX6_fits 12 = .ok (.iload 4, 2) := by decide +kernel
theorem dX6_fits_14 : decode cX6_fits 14 = .ok (.bipush 6, 2) := by decide +kernel
theorem dX6_fits_16 : decode cX6_fits 16 = .ok (.if_icmp .ge 40, 3) := by decide +kernel
theorem dX6_fits_19 : decode cX6_fits 19 = .ok (.aload_n 0, 1) := by decide +kernel
theorem dX6_fits_20 : decode cX6_fits 20 = .ok (.getfield 9, 3) := by decide +kernel
theorem dX6_fits_23 : decode cX6_fits 23 = .ok (.iload 4, 2) := by decide +kernel
theorem dX6_fits_25 : decode cX6_fits 25 = .ok (.iaload, 1) := by decide +kernel
theorem dX6_fits_26 : decode cX6_fits 26 = .ok (.iconst (-1), 1) := by decide +kernel
theorem dX6_fits_27 : decode cX6_fits 27 = .ok (.if_icmp .eq 23, 3) := by decide +kernel
theorem dX6_fits_30 : decode cX6_fits 30 = .ok (.aload_n 0, 1) := by decide +kernel
theorem dX6_fits_31 : decode cX6_fits 31 = .ok (.getfield 9, 3) := by decide +kernel
theorem dX6_fits_34 : decode cX6_fits 34 = .ok (.iload 4, 2) := by decide +kernel
theorem dX6_fits_36 : decode cX6_fits 36 = .ok (.iaload, 1) := by decide +kernel
theorem dX6_fits_37 : decode cX6_fits 37 = .ok (.aload_n 1, 1) := by decide +kernel
theorem dX6_fits_38 : decode cX6_fits 38 = .ok (.iload_n 2, 1) := by decide +kernel
theorem dX6_fits_39 : decode cX6_fits 39 = .ok (.iload 4, 2) := by decide +kernel
theorem dX6_fits_41 : decode cX6_fits 41 = .ok (.aload_n 3, 1) := by decide +kernel
theorem dX6_fits_42 : decode cX6_fits 42 = .ok (.invokevirtual 25, 3) := by decide +kernel
theorem dX6_fits_45 : decode cX6_fits 45 = .ok (.if_icmp .eq 5, 3) := by decide +kernel
theorem dX6_fits_48 : decode cX6_fits 48 = .ok (.iconst 0, 1) := by decide +kernel
theorem dX6_fits_49 : decode cX6_fits 49 = .ok (.ireturn, 1) := by decide +kernel
theorem dX6_fits_50 : decode cX6_fits 50 = .ok (.iinc 4 1, 3) := by decide +kernel
theorem dX6_fits_53 : decode cX6_fits 53 = .ok (.goto (-41), 3) := by decide +kernel
theorem dX6_fits_56 : decode cX6_fits 56 = .ok (.iconst 1, 1) := by decide +kernel
theorem dX6_fits_57 : decode cX6_fits 57 = .ok (.ireturn, 1) := by decide +kernel
def fX6_fits_50 (k12 : Nat → Nat → Int32 → Nat → Int32 → gz_H → Option (Int32 × gz_H)) (a0 : Nat) (a1 : Nat) (x2 : Int32) (a3 : Nat) (x4 : Int32) (h : gz_H) : Option (Int32 × gz_H) :=
    k12 a0 a1 x2 a3 (x4 + 1) h
set_option maxRecDepth 100000 in
set_option maxHeartbeats 1000000 in
theorem sX6_fits_50 {G : gz_G} {d l0 s0 : Nat} {Q : Int32 → gz_H → Prop} {k12 : Nat → Nat → Int32 → Nat → Int32 → gz_H → Option (Int32 × gz_H)} (hk12 : ∀ (a0 : Nat) (a1 : Nat) (x2 : Int32) (a3 : Nat) (x4 : Int32) (h : gz_H), gz_g (k12 a0 a1 x2 a3 x4 h) Q → gz_Ok G mX6_fits (d + 2, l0, s0, 0, 0) 12 [.ref a0, .ref a1, .int x2, .ref a3, .int x4] [] h (gz_qi Q)) (a0 : Nat) (a1 : Nat) (x2 : Int32) (a3 : Nat) (x4 : Int32) (h : gz_H) (hf : gz_g (fX6_fits_50 k12 a0 a1 x2 a3 x4 h) Q) : gz_Ok G mX6_fits (d + 2, l0, s0, 0, 0) 50 [.ref a0, .ref a1, .int x2, .ref a3, .int x4] [] h (gz_qi Q) := by
  unfold fX6_fits_50 at hf
  refine gz_iinc (v := x4 + 1) (lv := [.ref a0, .ref a1, .int x2, .ref a3, .int (x4 + 1)]) (pc := 50) dX6_fits_50 rfl rfl (by decide) rfl ?_
  refine gz_goto (tgt := 12) (pc := 53) dX6_fits_53 rfl ?_
  exact hk12 a0 a1 x2 a3 (x4 + 1) h hf
def fX6_fits_12  : Nat → Nat → Nat → Int32 → Nat → Int32 → gz_H → Option (Int32 × gz_H)
  | 0, _, _, _, _, _, _ => none
  | n + 1, a0, a1, x2, a3, x4, h =>
    if (6 : Int32) ≤ x4 then (
     some ((1 : Int32), h)
    ) else (
     gz_ck (gz_sh h a0 6 2) <|
     gz_br (h.2.2.2 a0 0) fun r_3 =>
     gz_ck (gz_inb h r_3 10 x4) <|
     if (h.2.1 r_3 x4.toNatClampNeg) = (-1 : Int32) then (
      fX6_fits_50 (fun z0 z1 z2 z3 z4 zh => fX6_fits_12 n z0 z1 z2 z3 z4 zh) a0 a1 x2 a3 x4 h
     ) else (
      gz_ck (gz_sh h a1 2 6) <|
      gz_b2 (fX2_toldAs a1 x2 x4 a3 h) fun y_7 h_6 =>
      if (h.2.1 r_3 x4.toNatClampNeg) = y_7 then (
       fX6_fits_50 (fun z0 z1 z2 z3 z4 zh => fX6_fits_12 n z0 z1 z2 z3 z4 zh) a0 a1 x2 a3 x4 h_6
      ) else (
       some ((0 : Int32), h_6)
      )
     )
    )
set_option maxRecDepth 100000 in
set_option maxHeartbeats 1000000 in
theorem sX6_fits_12 {G : gz_G} {d l0 s0 : Nat} {Q : Int32 → gz_H → Prop} : ∀ (n : Nat) (a0 : Nat) (a1 : Nat) (x2 : Int32) (a3 : Nat) (x4 : Int32) (h : gz_H), gz_g (fX6_fits_12  n a0 a1 x2 a3 x4 h) Q → gz_Ok G mX6_fits (d + 2, l0, s0, 0, 0) 12 [.ref a0, .ref a1, .int x2, .ref a3, .int x4] [] h (gz_qi Q) := by
  intro n
  induction n with
  | zero => intro a0 a1 x2 a3 x4 h hf; exact False.elim hf
  | succ n ih =>
    intro a0 a1 x2 a3 x4 h hf
    rw [fX6_fits_12] at hf
    refine gz_iload (pc := 12) dX6_fits_12 rfl ?_
    refine gz_bipush (v := (6 : Int32)) (pc := 14) dX6_fits_14 rfl ?_
    refine gz_icmp_ge (tgt := 56) (pc := 16) dX6_fits_16 rfl (fun c_1 => ?_) (fun c_1 => ?_)
    · have hf := gz_gT hf c_1
      refine gz_iconst (v := (1 : Int32)) (pc := 56) dX6_fits_56 rfl ?_
      exact gz_irt (pc := 57) dX6_fits_57 rfl rfl hf
    · have hf := gz_gF hf c_1
      refine gz_aload_n (pc := 19) dX6_fits_19 rfl rfl ?_
      refine gz_gk hf (fun c_2 hf => ?_)
      refine gz_gb hf (fun r_3 er_3 hf => ?_)
      refine gz_getR (pc := 20) dX6_fits_20 fl_RX6_9 rfl (gz_shs c_2) er_3 ?_
      refine gz_iload (pc := 23) dX6_fits_23 rfl ?_
      refine gz_gk hf (fun c_4 hf => ?_)
      refine gz_iald (pc := 25) dX6_fits_25 c_4 ?_
      refine gz_iconst (v := (-1 : Int32)) (pc := 26) dX6_fits_26 rfl ?_
      refine gz_icmp_eq (tgt := 50) (pc := 27) dX6_fits_27 rfl (fun c_5 => ?_) (fun c_5 => ?_)
      · have hf := gz_gT hf c_5
        exact sX6_fits_50 ih a0 a1 x2 a3 x4 h hf
      · have hf := gz_gF hf c_5
        refine gz_aload_n (pc := 30) dX6_fits_30 rfl rfl ?_
        refine gz_getR (pc := 31) dX6_fits_31 fl_RX6_9 rfl (gz_shs c_2) er_3 ?_
        refine gz_iload (pc := 34) dX6_fits_34 rfl ?_
        refine gz_iald (pc := 36) dX6_fits_36 c_4 ?_
        refine gz_aload_n (pc := 37) dX6_fits_37 rfl rfl ?_
        refine gz_iload_n (pc := 38) dX6_fits_38 rfl rfl ?_
        refine gz_iload (pc := 39) dX6_fits_39 rfl ?_
        refine gz_aload_n (pc := 41) dX6_fits_41 rfl rfl ?_
        refine gz_gk hf (fun c_8 hf => ?_)
        refine gz_cVI (av := [.int x2, .int x4, .ref a3]) (st := [.int (h.2.1 r_3 x4.toNatClampNeg)]) (pc := 42) dX6_fits_42 kl_RX6_25 rfl (gz_shs c_8) rfl rfl (Nat.le_of_ble_eq_true rfl) (by show d + 0 + 1 + 1 ≤ d + 2; omega) (sX2_toldAs (d := d + 0) (gz_gc hf)) (fun y_7 h_6 hf => ?_)
        refine gz_icmp_eq (tgt := 50) (pc := 45) dX6_fits_45 rfl (fun c_9 => ?_) (fun c_9 => ?_)
        · have hf := gz_gT hf c_9
          exact sX6_fits_50 ih a0 a1 x2 a3 x4 h_6 hf
        · have hf := gz_gF hf c_9
          refine gz_iconst (v := (0 : Int32)) (pc := 48) dX6_fits_48 rfl ?_
          exact gz_irt (pc := 49) dX6_fits_49 rfl rfl hf
def fX6_fits_0  (a0 : Nat) (a1 : Nat) (x2 : Int32) (a3 : Nat) (h : gz_H) : Option (Int32 × gz_H) :=
    gz_ck (gz_sh h a0 6 2) <|
    if (h.2.1 a0 1) = 0 then (
     fX6_fits_12 gz_fu a0 a1 x2 a3 (0 : Int32) h
    ) else (
     some ((0 : Int32), h)
    )
set_option maxRecDepth 100000 in
set_option maxHeartbeats 1000000 in
theorem sX6_fits_0 {G : gz_G} {d l0 s0 : Nat} {Q : Int32 → gz_H → Prop} (a0 : Nat) (a1 : Nat) (x2 : Int32) (a3 : Nat) (h : gz_H) (hf : gz_g (fX6_fits_0  a0 a1 x2 a3 h) Q) : gz_Ok G mX6_fits (d + 2, l0, s0, 0, 0) 0 [.ref a0, .ref a1, .int x2, .ref a3, .retAddr 0] [] h (gz_qi Q) := by
  unfold fX6_fits_0 at hf
  refine gz_aload_n (pc := 0) dX6_fits_0 rfl rfl ?_
  refine gz_gk hf (fun c_1 hf => ?_)
  refine gz_getI (pc := 1) dX6_fits_1 fl_RX6_21 rfl (gz_shs c_1) ?_
  refine gz_if_eq (tgt := 9) (pc := 4) dX6_fits_4 rfl (fun c_2 => ?_) (fun c_2 => ?_)
  · have hf := gz_gT hf c_2
    refine gz_iconst (v := (0 : Int32)) (pc := 9) dX6_fits_9 rfl ?_
    refine gz_istore (lv := [.ref a0, .ref a1, .int x2, .ref a3, .int (0 : Int32)]) (pc := 10) dX6_fits_10 (by decide) rfl ?_
    exact sX6_fits_12 gz_fu a0 a1 x2 a3 (0 : Int32) h hf
  · have hf := gz_gF hf c_2
    refine gz_iconst (v := (0 : Int32)) (pc := 7) dX6_fits_7 rfl ?_
    exact gz_irt (pc := 8) dX6_fits_8 rfl rfl hf
def fX6_fits (a0 : Nat) (a1 : Nat) (x2 : Int32) (a3 : Nat) (h : gz_H) : Option (Int32 × gz_H) := fX6_fits_0 a0 a1 x2 a3 h
theorem sX6_fits {G : gz_G} {d : Nat} {a0 : Nat} {a1 : Nat} {x2 : Int32} {a3 : Nat} {h : gz_H} {Q : Int32 → gz_H → Prop} (hf : gz_g (fX6_fits a0 a1 x2 a3 h) Q) : gz_Cl G mX6_fits (d + 2) 0 0 [.ref a0, .ref a1, .int x2, .ref a3] h (gz_qi Q) := gz_cl_of (lo := [.ref a0, .ref a1, .int x2, .ref a3, .retAddr 0]) (by decide) rfl rfl (Nat.le_of_ble_eq_true rfl) (sX6_fits_0 a0 a1 x2 a3 h hf)
theorem dX7_init_0 : decode cX7_init 0 = .ok (.aload_n 0, 1) := by decide +kernel
theorem dX7_init_1 : decode cX7_init 1 = .ok (.invokespecial 3, 3) := by decide +kernel
theorem dX7_init_4 : decode cX7_init 4 = .ok (.aload_n 0, 1) := by decide +kernel
theorem dX7_init_5 : decode cX7_init 5 = .ok (.iload_n 2, 1) := by decide +kernel
theorem dX7_init_6 : decode cX7_init 6 = .ok (.putfield 9, 3) := by decide +kernel
theorem dX7_init_9 : decode cX7_init 9 = .ok (.aload_n 0, 1) := by decide +kernel
theorem dX7_init_10 : decode cX7_init 10 = .ok (.iload_n 1, 1) := by decide +kernel
theorem dX7_init_11 : decode cX7_init 11 = .ok (.iload_n 2, 1) := by decide +kernel
theorem dX7_init_12 : decode cX7_init 12 = .ok (.multianewarray 15 2, 4) := by decide +kernel
theorem dX7_init_16 : decode cX7_init 16 = .ok (.putfield 17, 3) := by decide +kernel
theorem dX7_init_19 : decode cX7_init 19 = .ok (.aload_n 0, 1) := by decide +kernel
theorem dX7_init_20 : decode cX7_init 20 = .ok (.iload_n 1, 1) := by decide +kernel
theorem dX7_init_21 : decode cX7_init 21 = .ok (.newarray .int, 2) := by decide +kernel
theorem dX7_init_23 : decode cX7_init 23 = .ok (.putfield 20, 3) := by decide +kernel
theorem dX7_init_26 : decode cX7_init 26 = .ok (.aload_n 0, 1) := by decide +kernel
theorem dX7_init_27 : decode cX7_init 27 = .ok (.getfield 20, 3) := by decide +kernel
theorem dX7_init_30 : decode cX7_init 30 = .ok (.iconst (-1), 1) := by decide +kernel
theorem dX7_init_31 : decode cX7_init 31 = .ok (.invokestatic 24, 3) := by decide +kernel
theorem dX7_init_34 : decode cX7_init 34 = .ok (.return_, 1) := by decide +kernel
def fX7_init_0 (l0 s0 mc ms : Nat) (a0 : Nat) (x1 : Int32) (x2 : Int32) (h : gz_H) : Option (Unit × gz_H) :=
    gz_ck (gz_sh h a0 7 3) <|
    gz_lt (uI h a0 0 x2) fun h_2 =>
    gz_ck (gz_dc ((¬ x1 < 0 ∧ ¬ x2 < 0 ∧ x1.toNatClampNeg ≤ 1000 ∧ x2.toNatClampNeg ≤ 1000 ∧ h_2.1.length < 900000) ∧ (h_2.1.length + (1 + x1.toNatClampNeg) ≤ l0 + mc ∧ gz_ss h_2.1 + (x1.toNatClampNeg + x1.toNatClampNeg * x2.toNatClampNeg) ≤ s0 + ms))) <|
    gz_lt (gz_mn h_2 x1.toNatClampNeg x2.toNatClampNeg) fun h_4 =>
    gz_ck (gz_sh h_4 a0 7 3) <|
    gz_lt (uR h_4 a0 1 (some h_2.1.length)) fun h_6 =>
    gz_ck (gz_dc (¬ x1 < 0 ∧ h_6.1.length < 999999 ∧ x1.toNatClampNeg ≤ 100000 ∧ (h_6.1.length + 1 ≤ l0 + mc ∧ gz_ss h_6.1 + x1.toNatClampNeg ≤ s0 + ms))) <|
    gz_lt (gz_al h_6 (10, x1.toNatClampNeg)) fun h_8 =>
    gz_ck (gz_sh h_8 a0 7 3) <|
    gz_lt (uR h_8 a0 2 (some h_6.1.length)) fun h_10 =>
    gz_ck (gz_sh h_10 a0 7 3) <|
    gz_br (h_10.2.2.2 a0 2) fun r_12 =>
    gz_b2 (fJ7_fill_53178 r_12 (-1 : Int32) h_10) fun _ h_13 =>
    gz_ck (gz_dc (l0 + mc = h_13.1.length ∧ s0 + ms = gz_ss h_13.1)) <|
    some ((), h_13)
set_option maxRecDepth 100000 in
set_option maxHeartbeats 1000000 in
theorem sX7_init_0 {G : gz_G} {d l0 s0 mc ms : Nat} {Q : Unit → gz_H → Prop} (a0 : Nat) (x1 : Int32) (x2 : Int32) (h : gz_H) (hf : gz_g (fX7_init_0 l0 s0 mc ms a0 x1 x2 h) Q) : gz_Ok G mX7_init (d + 1, l0, s0, mc, ms) 0 [.ref a0, .int x1, .int x2] [] h (gz_qu Q) := by
  unfold fX7_init_0 at hf
  refine gz_aload_n (pc := 0) dX7_init_0 rfl rfl ?_
  refine gz_obj (pc := 1) dX7_init_1 kob_RX7_3 (by show 1 ≤ d + 1; omega) (Nat.le_of_ble_eq_true rfl) ?_
  refine gz_aload_n (pc := 4) dX7_init_4 rfl rfl ?_
  refine gz_iload_n (pc := 5) dX7_init_5 rfl rfl ?_
  refine gz_gk hf (fun c_1 hf => ?_)
  refine gz_putI (pc := 6) dX7_init_6 fw_X7_init_9 rfl rfl rfl (gz_shs c_1) ?_
  refine gz_nmH (fun h_2 eh_2 => ?_)
  have hf := gz_gl eh_2 hf
  refine gz_aload_n (pc := 9) dX7_init_9 rfl rfl ?_
  refine gz_iload_n (pc := 10) dX7_init_10 rfl rfl ?_
  refine gz_iload_n (pc := 11) dX7_init_11 rfl rfl ?_
  refine gz_gk hf (fun c_3 hf => ?_)
  refine gz_mna (pc := 12) dX7_init_12 kw_iia kw_int (gz_dcs c_3).1.1 (gz_dcs c_3).1.2.1 (gz_dcs c_3).1.2.2.1 (gz_dcs c_3).1.2.2.2.1 (gz_dcs c_3).1.2.2.2.2 (gz_dcs c_3).2 ?_
  refine gz_nmH (fun h_4 eh_4 => ?_)
  have hf := gz_gl eh_4 hf
  refine gz_gk hf (fun c_5 hf => ?_)
  refine gz_putR (pc := 16) dX7_init_16 fw_X7_init_17 rfl (gz_shs c_5) ?_
  refine gz_nmH (fun h_6 eh_6 => ?_)
  have hf := gz_gl eh_6 hf
  refine gz_aload_n (pc := 19) dX7_init_19 rfl rfl ?_
  refine gz_iload_n (pc := 20) dX7_init_20 rfl rfl ?_
  refine gz_gk hf (fun c_7 hf => ?_)
  refine gz_newi (pc := 21) dX7_init_21 kw_int (gz_dcs c_7).1 (gz_dcs c_7).2.1 (gz_dcs c_7).2.2.1 (gz_dcs c_7).2.2.2 ?_
  refine gz_nmH (fun h_8 eh_8 => ?_)
  have hf := gz_gl eh_8 hf
  refine gz_gk hf (fun c_9 hf => ?_)
  refine gz_putR (pc := 23) dX7_init_23 fw_X7_init_20 rfl (gz_shs c_9) ?_
  refine gz_nmH (fun h_10 eh_10 => ?_)
  have hf := gz_gl eh_10 hf
  refine gz_aload_n (pc := 26) dX7_init_26 rfl rfl ?_
  refine gz_gk hf (fun c_11 hf => ?_)
  refine gz_gb hf (fun r_12 er_12 hf => ?_)
  refine gz_getR (pc := 27) dX7_init_27 fl_RX7_20 rfl (gz_shs c_11) er_12 ?_
  refine gz_iconst (v := (-1 : Int32)) (pc := 30) dX7_init_30 rfl ?_
  refine gz_cSV (av := [.ref r_12, .int (-1 : Int32)]) (st := []) (pc := 31) dX7_init_31 kl_RX7_24 rfl rfl (Nat.le_of_ble_eq_true rfl) (by show d + 0 + 0 + 1 ≤ d + 1; omega) (sJ7_fill_53178 (d := d + 0) (gz_gc hf)) (fun _ h_13 hf => ?_)
  refine gz_gk hf (fun c_15 hf => ?_)
  exact gz_uretA (pc := 34) dX7_init_34 rfl (gz_dcs c_15).1 (gz_dcs c_15).2 hf
def fX7_init (mc ms : Nat) (a0 : Nat) (x1 : Int32) (x2 : Int32) (h : gz_H) : Option (Unit × gz_H) := fX7_init_0 h.1.length (gz_ss h.1) mc ms a0 x1 x2 h
theorem sX7_init {G : gz_G} {d mc ms : Nat} {a0 : Nat} {x1 : Int32} {x2 : Int32} {h : gz_H} {Q : Unit → gz_H → Prop} (hf : gz_g (fX7_init mc ms a0 x1 x2 h) Q) : gz_Cl G mX7_init (d + 1) mc ms [.ref a0, .int x1, .int x2] h (gz_qu Q) := gz_cl_of (lo := [.ref a0, .int x1, .int x2]) (by decide) rfl rfl (Nat.le_of_ble_eq_true rfl) (sX7_init_0 a0 x1 x2 h hf)
theorem dX7_knows_0 : decode cX7_knows 0 = .ok (.iload_n 1, 1) := by decide +kernel
theorem dX7_knows_1 : decode cX7_knows 1 = .ok (.ifCond .lt 16, 3) := by decide +kernel
theorem dX7_knows_4 : decode cX7_knows 4 = .ok (.iload_n 1, 1) := by decide +kernel
theorem dX7_knows_5 : decode cX7_knows 5 = .ok (.aload_n 0, 1) := by decide +kernel
theorem dX7_knows_6 : decode cX7_knows 6 = .ok (.getfield 20, 3) := by decide +kernel
theorem dX7_knows_9 : decode cX7_knows 9 = .ok (.arraylength, 1) := by decide +kernel
theorem dX7_knows_10 : decode cX7_knows 10 = .ok (.if_icmp .ge 7, 3) := by decide +kernel
theorem dX7_knows_13 : decode cX7_knows 13 = .ok (.iconst 1, 1) := by decide +kernel
theorem dX7_knows_14 : decode cX7_knows 14 = .ok (.goto 4, 3) := by decide +kernel
theorem dX7_knows_17 : decode cX7_knows 17 = .ok (.iconst 0, 1) := by decide +kernel
theorem dX7_knows_18 : decode cX7_knows 18 = .ok (.ireturn, 1) := by decide +kernel
def fX7_knows_0  (a0 : Nat) (x1 : Int32) (h : gz_H) : Option (Int32 × gz_H) :=
    if x1 < 0 then (
     some ((0 : Int32), h)
    ) else (
     gz_ck (gz_sh h a0 7 3) <|
     gz_br (h.2.2.2 a0 2) fun r_3 =>
     gz_bi (gz_len h r_3) fun y_4 =>
     if y_4 ≤ x1 then (
      some ((0 : Int32), h)
     ) else (
      some ((1 : Int32), h)
     )
    )
set_option maxRecDepth 100000 in
set_option maxHeartbeats 1000000 in
theorem sX7_knows_0 {G : gz_G} {d l0 s0 : Nat} {Q : Int32 → gz_H → Prop} (a0 : Nat) (x1 : Int32) (h : gz_H) (hf : gz_g (fX7_knows_0  a0 x1 h) Q) : gz_Ok G mX7_knows (d + 0, l0, s0, 0, 0) 0 [.ref a0, .int x1] [] h (gz_qi Q) := by
  unfold fX7_knows_0 at hf
  refine gz_iload_n (pc := 0) dX7_knows_0 rfl rfl ?_
  refine gz_if_lt (tgt := 17) (pc := 1) dX7_knows_1 rfl (fun c_1 => ?_) (fun c_1 => ?_)
  · have hf := gz_gT hf c_1
    refine gz_iconst (v := (0 : Int32)) (pc := 17) dX7_knows_17 rfl ?_
    exact gz_irt (pc := 18) dX7_knows_18 rfl rfl hf
  · have hf := gz_gF hf c_1
    refine gz_iload_n (pc := 4) dX7_knows_4 rfl rfl ?_
    refine gz_aload_n (pc := 5) dX7_knows_5 rfl rfl ?_
    refine gz_gk hf (fun c_2 hf => ?_)
    refine gz_gb hf (fun r_3 er_3 hf => ?_)
    refine gz_getR (pc := 6) dX7_knows_6 fl_RX7_20 rfl (gz_shs c_2) er_3 ?_
    refine gz_gi hf (fun y_4 ey_4 hf => ?_)
    refine gz_alen (pc := 9) dX7_knows_9 ey_4 ?_
    refine gz_icmp_ge (tgt := 17) (pc := 10) dX7_knows_10 rfl (fun c_5 => ?_) (fun c_5 => ?_)
    · have hf := gz_gT hf c_5
      refine gz_iconst (v := (0 : Int32)) (pc := 17) dX7_knows_17 rfl ?_
      exact gz_irt (pc := 18) dX7_knows_18 rfl rfl hf
    · have hf := gz_gF hf c_5
      refine gz_iconst (v := (1 : Int32)) (pc := 13) dX7_knows_13 rfl ?_
      refine gz_goto (tgt := 18) (pc := 14) dX7_knows_14 rfl ?_
      exact gz_irt (pc := 18) dX7_knows_18 rfl rfl hf
def fX7_knows (a0 : Nat) (x1 : Int32) (h : gz_H) : Option (Int32 × gz_H) := fX7_knows_0 a0 x1 h
theorem sX7_knows {G : gz_G} {d : Nat} {a0 : Nat} {x1 : Int32} {h : gz_H} {Q : Int32 → gz_H → Prop} (hf : gz_g (fX7_knows a0 x1 h) Q) : gz_Cl G mX7_knows (d + 0) 0 0 [.ref a0, .int x1] h (gz_qi Q) := gz_cl_of (lo := [.ref a0, .int x1]) (by decide) rfl rfl (Nat.le_of_ble_eq_true rfl) (sX7_knows_0 a0 x1 h hf)
theorem dX7_has_0 : decode cX7_has 0 = .ok (.aload_n 0, 1) := by decide +kernel
theorem dX7_has_1 : decode cX7_has 1 = .ok (.getfield 20, 3) := by decide +kernel
theorem dX7_has_4 : decode cX7_has 4 = .ok (.iload_n 1, 1) := by decide +kernel
theorem dX7_has_5 : decode cX7_has 5 = .ok (.iaload, 1) := by decide +kernel
theorem dX7_has_6 : decode cX7_has 6 = .ok (.iconst (-1), 1) := by decide +kernel
theorem dX7_has_7 : decode cX7_has 7 = .ok (.if_icmp .eq 7, 3) := by decide +kernel
theorem dX7_has_10 : decode cX7_has 10 = .ok (.iconst 1, 1) := by decide +kernel
theorem dX7_has_11 : decode cX7_has 11 = .ok (.goto 4, 3) := by decide +kernel
theorem dX7_has_14 : decode cX7_has 14 = .ok (.iconst 0, 1) := by decide +kernel
theorem dX7_has_15 : decode cX7_has 15 = .ok (.ireturn, 1) := by decide +kernel
def fX7_has_0  (a0 : Nat) (x1 : Int32) (h : gz_H) : Option (Int32 × gz_H) :=
    gz_ck (gz_sh h a0 7 3) <|
    gz_br (h.2.2.2 a0 2) fun r_2 =>
    gz_ck (gz_inb h r_2 10 x1) <|
    if (h.2.1 r_2 x1.toNatClampNeg) = (-1 : Int32) then (
     some ((0 : Int32), h)
    ) else (
     some ((1 : Int32), h)
    )
set_option maxRecDepth 100000 in
set_option maxHeartbeats 1000000 in
theorem sX7_has_0 {G : gz_G} {d l0 s0 : Nat} {Q : Int32 → gz_H → Prop} (a0 : Nat) (x1 : Int32) (h : gz_H) (hf : gz_g (fX7_has_0  a0 x1 h) Q) : gz_Ok G mX7_has (d + 0, l0, s0, 0, 0) 0 [.ref a0, .int x1] [] h (gz_qi Q) := by
  unfold fX7_has_0 at hf
  refine gz_aload_n (pc := 0) dX7_has_0 rfl rfl ?_
  refine gz_gk hf (fun c_1 hf => ?_)
  refine gz_gb hf (fun r_2 er_2 hf => ?_)
  refine gz_getR (pc := 1) dX7_has_1 fl_RX7_20 rfl (gz_shs c_1) er_2 ?_
  refine gz_iload_n (pc := 4) dX7_has_4 rfl rfl ?_
  refine gz_gk hf (fun c_3 hf => ?_)
  refine gz_iald (pc := 5) dX7_has_5 c_3 ?_
  refine gz_iconst (v := (-1 : Int32)) (pc := 6) dX7_has_6 rfl ?_
  refine gz_icmp_eq (tgt := 14) (pc := 7) dX7_has_7 rfl (fun c_4 => ?_) (fun c_4 => ?_)
  · have hf := gz_gT hf c_4
    refine gz_iconst (v := (0 : Int32)) (pc := 14) dX7_has_14 rfl ?_
    exact gz_irt (pc := 15) dX7_has_15 rfl rfl hf
  · have hf := gz_gF hf c_4
    refine gz_iconst (v := (1 : Int32)) (pc := 10) dX7_has_10 rfl ?_
    refine gz_goto (tgt := 15) (pc := 11) dX7_has_11 rfl ?_
    exact gz_irt (pc := 15) dX7_has_15 rfl rfl hf
def fX7_has (a0 : Nat) (x1 : Int32) (h : gz_H) : Option (Int32 × gz_H) := fX7_has_0 a0 x1 h
theorem sX7_has {G : gz_G} {d : Nat} {a0 : Nat} {x1 : Int32} {h : gz_H} {Q : Int32 → gz_H → Prop} (hf : gz_g (fX7_has a0 x1 h) Q) : gz_Cl G mX7_has (d + 0) 0 0 [.ref a0, .int x1] h (gz_qi Q) := gz_cl_of (lo := [.ref a0, .int x1]) (by decide) rfl rfl (Nat.le_of_ble_eq_true rfl) (sX7_has_0 a0 x1 h hf)
theorem dX7_hasStretch_0 : decode cX7_hasStretch 0 = .ok (.iload_n 2, 1) := by decide +kernel
theorem dX7_hasStretch_1 : decode cX7_hasStretch 1 = .ok (.ifCond .lt 23, 3) := by decide +kernel
theorem dX7_hasStretch_4 : decode cX7_hasStretch 4 = .ok (.iload_n 2, 1) := by decide +kernel
theorem dX7_hasStretch_5 : decode cX7_hasStretch 5 = .ok (.i2l, 1) := by decide +kernel
theorem dX7_hasStretch_6 : decode cX7_hasStretch 6 = .ok (.iload_n 3, 1) := by decide +kernel
theorem dX7_hasStretch_7 : decode cX7_hasStretch 7 = .ok (.i2l, 1) := by decide +kernel
theorem dX7_hasStretch_8 : decode cX7_hasStretch 8 = .ok (.ladd, 1) := by decide +kernel
theorem dX7_hasStretch_9 : decode cX7_hasStretch 9 = .ok (.aload_n 0, 1) := by decide +kernel
theorem dX7_hasStretch_10 : decode cX7_hasStretch 10 = .ok (.getfield 20, 3) := by decide +kernel
theorem dX7_hasStretch_13 : decode cX7_hasStretch 13 = .ok (.iload_n 1, 1) := by decide +kernel
theorem dX7_hasStretch_14 : decode cX7_hasStretch 14 = .ok (.iaload, 1) := by decide +kernel
theorem dX7_hasStretch_15 : decode cX7_hasStretch 15 = .ok (.i2l, 1) := by decide +kernel
theorem dX7_hasStretch_16 : decode cX7_hasStretch 16 = .ok (.lcmp, 1) := by decide +kernel
theorem dX7_hasStretch_17 : decode cX7_hasStretch 17 = .ok (.ifCond .gt 7, 3) := by decide +kernel
theorem dX7_hasStretch_20 : decode cX7_hasStretch 20 = .ok (.iconst 1, 1) := by decide +kernel
theorem dX7_hasStretch_21 : decode cX7_hasStretch 21 = .ok (.goto 4, 3) := by decide +kernel
theorem dX7_hasStretch_24 : decode cX7_hasStretch 24 = .ok (.iconst 0, 1) := by decide +kernel
theorem dX7_hasStretch_25 : decode cX7_hasStretch 25 = .ok (.ireturn, 1) := by decide +kernel
def fX7_hasStretch_0  (a0 : Nat) (x1 : Int32) (x2 : Int32) (x3 : Int32) (h : gz_H) : Option (Int32 × gz_H) :=
    if x2 < 0 then (
     some ((0 : Int32), h)
    ) else (
     gz_ck (gz_sh h a0 7 3) <|
     gz_br (h.2.2.2 a0 2) fun r_3 =>
     gz_ck (gz_inb h r_3 10 x1) <|
     if 0 < (lg_cmp (x2.toInt64 + x3.toInt64) ((h.2.1 r_3 x1.toNatClampNeg).toInt64)) then (
      some ((0 : Int32), h)
     ) else (
      some ((1 : Int32), h)
     )
    )
set_option maxRecDepth 100000 in
set_option maxHeartbeats 1000000 in
theorem sX7_hasStretch_0 {G : gz_G} {d l0 s0 : Nat} {Q : Int32 → gz_H → Prop} (a0 : Nat) (x1 : Int32) (x2 : Int32) (x3 : Int32) (h : gz_H) (hf : gz_g (fX7_hasStretch_0  a0 x1 x2 x3 h) Q) : gz_Ok G mX7_hasStretch (d + 0, l0, s0, 0, 0) 0 [.ref a0, .int x1, .int x2, .int x3] [] h (gz_qi Q) := by
  unfold fX7_hasStretch_0 at hf
  refine gz_iload_n (pc := 0) dX7_hasStretch_0 rfl rfl ?_
  refine gz_if_lt (tgt := 24) (pc := 1) dX7_hasStretch_1 rfl (fun c_1 => ?_) (fun c_1 => ?_)
  · have hf := gz_gT hf c_1
    refine gz_iconst (v := (0 : Int32)) (pc := 24) dX7_hasStretch_24 rfl ?_
    exact gz_irt (pc := 25) dX7_hasStretch_25 rfl rfl hf
  · have hf := gz_gF hf c_1
    refine gz_iload_n (pc := 4) dX7_hasStretch_4 rfl rfl ?_
    refine gz_i2l (pc := 5) dX7_hasStretch_5 ?_
    refine gz_iload_n (pc := 6) dX7_hasStretch_6 rfl rfl ?_
    refine gz_i2l (pc := 7) dX7_hasStretch_7 ?_
    refine gz_ladd (pc := 8) dX7_hasStretch_8 ?_
    refine gz_aload_n (pc := 9) dX7_hasStretch_9 rfl rfl ?_
    refine gz_gk hf (fun c_2 hf => ?_)
    refine gz_gb hf (fun r_3 er_3 hf => ?_)
    refine gz_getR (pc := 10) dX7_hasStretch_10 fl_RX7_20 rfl (gz_shs c_2) er_3 ?_
    refine gz_iload_n (pc := 13) dX7_hasStretch_13 rfl rfl ?_
    refine gz_gk hf (fun c_4 hf => ?_)
    refine gz_iald (pc := 14) dX7_hasStretch_14 c_4 ?_
    refine gz_i2l (pc := 15) dX7_hasStretch_15 ?_
    refine gz_lcmp (pc := 16) dX7_hasStretch_16 ?_
    refine gz_if_gt (tgt := 24) (pc := 17) dX7_hasStretch_17 rfl (fun c_5 => ?_) (fun c_5 => ?_)
    · have hf := gz_gT hf c_5
      refine gz_iconst (v := (0 : Int32)) (pc := 24) dX7_hasStretch_24 rfl ?_
      exact gz_irt (pc := 25) dX7_hasStretch_25 rfl rfl hf
    · have hf := gz_gF hf c_5
      refine gz_iconst (v := (1 : Int32)) (pc := 20) dX7_hasStretch_20 rfl ?_
      refine gz_goto (tgt := 25) (pc := 21) dX7_hasStretch_21 rfl ?_
      exact gz_irt (pc := 25) dX7_hasStretch_25 rfl rfl hf
def fX7_hasStretch (a0 : Nat) (x1 : Int32) (x2 : Int32) (x3 : Int32) (h : gz_H) : Option (Int32 × gz_H) := fX7_hasStretch_0 a0 x1 x2 x3 h
theorem sX7_hasStretch {G : gz_G} {d : Nat} {a0 : Nat} {x1 : Int32} {x2 : Int32} {x3 : Int32} {h : gz_H} {Q : Int32 → gz_H → Prop} (hf : gz_g (fX7_hasStretch a0 x1 x2 x3 h) Q) : gz_Cl G mX7_hasStretch (d + 0) 0 0 [.ref a0, .int x1, .int x2, .int x3] h (gz_qi Q) := gz_cl_of (lo := [.ref a0, .int x1, .int x2, .int x3]) (by decide) rfl rfl (Nat.le_of_ble_eq_true rfl) (sX7_hasStretch_0 a0 x1 x2 x3 h hf)
theorem dX7_make_0 : decode cX7_make 0 = .ok (.aload_n 0, 1) := by decide +kernel
theorem dX7_make_1 : decode cX7_make 1 = .ok (.getfield 17, 3) := by decide +kernel
theorem dX7_make_4 : decode cX7_make 4 = .ok (.iload_n 1, 1) := by decide +kernel
theorem dX7_make_5 : decode cX7_make 5 = .ok (.aaload, 1) := by decide +kernel
theorem dX7_make_6 : decode cX7_make 6 = .ok (.iload_n 3, 1) := by decide +kernel
theorem dX7_make_7 : decode cX7_make 7 = .ok (.invokestatic 24, 3) := by decide +kernel
theorem dX7_make_10 : decode cX7_make 10 = .ok (.aload_n 0, 1) := by decide +kernel
theorem dX7_make_11 : decode cX7_make 11 = .ok (.getfield 20, 3) := by decide +kernel
theorem dX7_make_14 : decode cX7_make 14 = .ok (.iload_n 1, 1) := by decide +kernel
theorem dX7_make_15 : decode cX7_make 15 = .ok (.iload_n 2, 1) := by decide +kernel
theorem dX7_make_16 : decode cX7_make 16 = .ok (.iastore, 1) := by decide +kernel
theorem dX7_make_17 : decode cX7_make 17 = .ok (.return_, 1) := by decide +kernel
def fX7_make_0  (a0 : Nat) (x1 : Int32) (x2 : Int32) (x3 : Int32) (h : gz_H) : Option (Unit × gz_H) :=
    gz_ck (gz_sh h a0 7 3) <|
    gz_br (h.2.2.2 a0 1) fun r_2 =>
    gz_ck (gz_inb h r_2 13 x1) <|
    gz_br (h.2.2.2 r_2 x1.toNatClampNeg) fun r_4 =>
    gz_b2 (fJ7_fill_53178 r_4 x3 h) fun _ h_5 =>
    gz_ck (gz_sh h_5 a0 7 3) <|
    gz_br (h_5.2.2.2 a0 2) fun r_8 =>
    gz_ck (gz_inb h_5 r_8 10 x1) <|
    gz_lt (uI h_5 r_8 x1.toNatClampNeg x2) fun h_10 =>
    some ((), h_10)
set_option maxRecDepth 100000 in
set_option maxHeartbeats 1000000 in
theorem sX7_make_0 {G : gz_G} {d l0 s0 : Nat} {Q : Unit → gz_H → Prop} (a0 : Nat) (x1 : Int32) (x2 : Int32) (x3 : Int32) (h : gz_H) (hf : gz_g (fX7_make_0  a0 x1 x2 x3 h) Q) : gz_Ok G mX7_make (d + 1, l0, s0, 0, 0) 0 [.ref a0, .int x1, .int x2, .int x3] [] h (gz_qu Q) := by
  unfold fX7_make_0 at hf
  refine gz_aload_n (pc := 0) dX7_make_0 rfl rfl ?_
  refine gz_gk hf (fun c_1 hf => ?_)
  refine gz_gb hf (fun r_2 er_2 hf => ?_)
  refine gz_getR (pc := 1) dX7_make_1 fl_RX7_17 rfl (gz_shs c_1) er_2 ?_
  refine gz_iload_n (pc := 4) dX7_make_4 rfl rfl ?_
  refine gz_gk hf (fun c_3 hf => ?_)
  refine gz_gb hf (fun r_4 er_4 hf => ?_)
  refine gz_aald (Or.inr (Or.inr rfl)) (pc := 5) dX7_make_5 c_3 er_4 ?_
  refine gz_iload_n (pc := 6) dX7_make_6 rfl rfl ?_
  refine gz_cSV (av := [.ref r_4, .int x3]) (st := []) (pc := 7) dX7_make_7 kl_RX7_24 rfl rfl (Nat.le_of_ble_eq_true rfl) (by show d + 0 + 0 + 1 ≤ d + 1; omega) (sJ7_fill_53178 (d := d + 0) (gz_gc hf)) (fun _ h_5 hf => ?_)
  refine gz_aload_n (pc := 10) dX7_make_10 rfl rfl ?_
  refine gz_gk hf (fun c_7 hf => ?_)
  refine gz_gb hf (fun r_8 er_8 hf => ?_)
  refine gz_getR (pc := 11) dX7_make_11 fl_RX7_20 rfl (gz_shs c_7) er_8 ?_
  refine gz_iload_n (pc := 14) dX7_make_14 rfl rfl ?_
  refine gz_iload_n (pc := 15) dX7_make_15 rfl rfl ?_
  refine gz_gk hf (fun c_9 hf => ?_)
  refine gz_iast (pc := 16) dX7_make_16 c_9 ?_
  refine gz_nmH (fun h_10 eh_10 => ?_)
  have hf := gz_gl eh_10 hf
  exact gz_uret (pc := 17) dX7_make_17 rfl hf
def fX7_make (a0 : Nat) (x1 : Int32) (x2 : Int32) (x3 : Int32) (h : gz_H) : Option (Unit × gz_H) := fX7_make_0 a0 x1 x2 x3 h
theorem sX7_make {G : gz_G} {d : Nat} {a0 : Nat} {x1 : Int32} {x2 : Int32} {x3 : Int32} {h : gz_H} {Q : Unit → gz_H → Prop} (hf : gz_g (fX7_make a0 x1 x2 x3 h) Q) : gz_Cl G mX7_make (d + 1) 0 0 [.ref a0, .int x1, .int x2, .int x3] h (gz_qu Q) := gz_cl_of (lo := [.ref a0, .int x1, .int x2, .int x3]) (by decide) rfl rfl (Nat.le_of_ble_eq_true rfl) (sX7_make_0 a0 x1 x2 x3 h hf)
theorem dX7_there_0 : decode cX7_there 0 = .ok (.iconst 0, 1) := by decide +kernel
theorem dX7_there_1 : decode cX7_there 1 = .ok (.istore_n 1, 1) := by decide +kernel
theorem dX7_there_2 : decode cX7_there 2 = .ok (.iconst 0, 1) := by decide +kernel
theorem dX7_there_3 : decode cX7_there 3 = .ok (.istore_n 2, 1) := by decide +kernel
theorem dX7_there_4 : decode cX7_there 4 = .ok (.iload_n 2, 1) := by decide +kernel
theorem dX7_there_5 : decode cX7_there 5 = .ok (.aload_n 0, 1) := by decide +kernel
theorem dX7_there_6 : decode cX7_there 6 = .ok (.getfield 20, 3) := by decide +kernel
theorem dX7_there_9 : decode cX7_there 9 = .ok (.arraylength, 1) := by decide +kernel
theorem dX7_there_10 : decode cX7_there 10 = .ok (.if_icmp .ge 20, 3) := by decide +kernel
theorem dX7_there_13 : decode cX7_there 13 = .ok (.aload_n 0, 1) := by decide +kernel
theorem dX7_there_14 : decode cX7_there 14 = .ok (.iload_n 2, 1) := by decide +kernel
theorem dX7_there_15 : decode cX7_there 15 = .ok (.invokevirtual 30, 3) := by decide +kernel
theorem dX7_there_18 : decode cX7_there 18 = .ok (.ifCond .eq 6, 3) := by decide +kernel
theorem dX7_there_21 : decode cX7_there 21 = .ok (.iinc 1 1, 3) := by decide +kernel
theorem dX7_there_24 : decode cX7_there 24 = .ok (.iinc 2 1, 3) := by decide +kernel
theorem dX7_there_27 : decode cX7_there 27 = .ok (.goto (-23), 3) := by decide +kernel
theorem dX7_there_30 : decode cX7_there 30 = .ok (.iload_n 1, 1) := by decide +kernel
theorem dX7_there_31 : decode cX7_there 31 = .ok (.ireturn, 1) := by decide +kernel
def fX7_there_24 (k4 : Nat → Int32 → Int32 → gz_H → Option (Int32 × gz_H)) (a0 : Nat) (x1 : Int32) (x2 : Int32) (h : gz_H) : Option (Int32 × gz_H) :=
    k4 a0 x1 (x2 + 1) h
set_option maxRecDepth 100000 in
set_option maxHeartbeats 1000000 in
theorem sX7_there_24 {G : gz_G} {d l0 s0 : Nat} {Q : Int32 → gz_H → Prop} {k4 : Nat → Int32 → Int32 → gz_H → Option (Int32 × gz_H)} (hk4 : ∀ (a0 : Nat) (x1 : Int32) (x2 : Int32) (h : gz_H), gz_g (k4 a0 x1 x2 h) Q → gz_Ok G mX7_there (d + 1, l0, s0, 0, 0) 4 [.ref a0, .int x1, .int x2] [] h (gz_qi Q)) (a0 : Nat) (x1 : Int32) (x2 : Int32) (h : gz_H) (hf : gz_g (fX7_there_24 k4 a0 x1 x2 h) Q) : gz_Ok G mX7_there (d + 1, l0, s0, 0, 0) 24 [.ref a0, .int x1, .int x2] [] h (gz_qi Q) := by
  unfold fX7_there_24 at hf
  refine gz_iinc (v := x2 + 1) (lv := [.ref a0, .int x1, .int (x2 + 1)]) (pc := 24) dX7_there_24 rfl rfl (by decide) rfl ?_
  refine gz_goto (tgt := 4) (pc := 27) dX7_there_27 rfl ?_
  exact hk4 a0 x1 (x2 + 1) h hf
def fX7_there_4  : Nat → Nat → Int32 → Int32 → gz_H → Option (Int32 × gz_H)
  | 0, _, _, _, _ => none
  | n + 1, a0, x1, x2, h =>
    gz_ck (gz_sh h a0 7 3) <|
    gz_br (h.2.2.2 a0 2) fun r_2 =>
    gz_bi (gz_len h r_2) fun y_3 =>
    if y_3 ≤ x2 then (
     some (x1, h)
    ) else (
     gz_b2 (fX7_has a0 x2 h) fun y_6 h_5 =>
     if y_6 = 0 then (
      fX7_there_24 (fun z0 z1 z2 zh => fX7_there_4 n z0 z1 z2 zh) a0 x1 x2 h_5
     ) else (
      fX7_there_24 (fun z0 z1 z2 zh => fX7_there_4 n z0 z1 z2 zh) a0 (x1 + 1) x2 h_5
     )
    )
set_option maxRecDepth 100000 in
set_option maxHeartbeats 1000000 in
theorem sX7_there_4 {G : gz_G} {d l0 s0 : Nat} {Q : Int32 → gz_H → Prop} : ∀ (n : Nat) (a0 : Nat) (x1 : Int32) (x2 : Int32) (h : gz_H), gz_g (fX7_there_4  n a0 x1 x2 h) Q → gz_Ok G mX7_there (d + 1, l0, s0, 0, 0) 4 [.ref a0, .int x1, .int x2] [] h (gz_qi Q) := by
  intro n
  induction n with
  | zero => intro a0 x1 x2 h hf; exact False.elim hf
  | succ n ih =>
    intro a0 x1 x2 h hf
    rw [fX7_there_4] at hf
    refine gz_iload_n (pc := 4) dX7_there_4 rfl rfl ?_
    refine gz_aload_n (pc := 5) dX7_there_5 rfl rfl ?_
    refine gz_gk hf (fun c_1 hf => ?_)
    refine gz_gb hf (fun r_2 er_2 hf => ?_)
    refine gz_getR (pc := 6) dX7_there_6 fl_RX7_20 rfl (gz_shs c_1) er_2 ?_
    refine gz_gi hf (fun y_3 ey_3 hf => ?_)
    refine gz_alen (pc := 9) dX7_there_9 ey_3 ?_
    refine gz_icmp_ge (tgt := 30) (pc := 10) dX7_there_10 rfl (fun c_4 => ?_) (fun c_4 => ?_)
    · have hf := gz_gT hf c_4
      refine gz_iload_n (pc := 30) dX7_there_30 rfl rfl ?_
      exact gz_irt (pc := 31) dX7_there_31 rfl rfl hf
    · have hf := gz_gF hf c_4
      refine gz_aload_n (pc := 13) dX7_there_13 rfl rfl ?_
      refine gz_iload_n (pc := 14) dX7_there_14 rfl rfl ?_
      refine gz_cVI (av := [.int x2]) (st := []) (pc := 15) dX7_there_15 kl_RX7_30 rfl (gz_shs c_1) rfl rfl (Nat.le_of_ble_eq_true rfl) (by show d + 0 + 0 + 1 ≤ d + 1; omega) (sX7_has (d := d + 0) (gz_gc hf)) (fun y_6 h_5 hf => ?_)
      refine gz_if_eq (tgt := 24) (pc := 18) dX7_there_18 rfl (fun c_7 => ?_) (fun c_7 => ?_)
      · have hf := gz_gT hf c_7
        exact sX7_there_24 ih a0 x1 x2 h_5 hf
      · have hf := gz_gF hf c_7
        refine gz_iinc (v := x1 + 1) (lv := [.ref a0, .int (x1 + 1), .int x2]) (pc := 21) dX7_there_21 rfl rfl (by decide) rfl ?_
        exact sX7_there_24 ih a0 (x1 + 1) x2 h_5 hf
def fX7_there_0  (a0 : Nat) (h : gz_H) : Option (Int32 × gz_H) :=
    fX7_there_4 gz_fu a0 (0 : Int32) (0 : Int32) h
set_option maxRecDepth 100000 in
set_option maxHeartbeats 1000000 in
theorem sX7_there_0 {G : gz_G} {d l0 s0 : Nat} {Q : Int32 → gz_H → Prop} (a0 : Nat) (h : gz_H) (hf : gz_g (fX7_there_0  a0 h) Q) : gz_Ok G mX7_there (d + 1, l0, s0, 0, 0) 0 [.ref a0, .retAddr 0, .retAddr 0] [] h (gz_qi Q) := by
  unfold fX7_there_0 at hf
  refine gz_iconst (v := (0 : Int32)) (pc := 0) dX7_there_0 rfl ?_
  refine gz_istore_n (lv := [.ref a0, .int (0 : Int32), .retAddr 0]) (pc := 1) dX7_there_1 rfl (by decide) rfl ?_
  refine gz_iconst (v := (0 : Int32)) (pc := 2) dX7_there_2 rfl ?_
  refine gz_istore_n (lv := [.ref a0, .int (0 : Int32), .int (0 : Int32)]) (pc := 3) dX7_there_3 rfl (by decide) rfl ?_
  exact sX7_there_4 gz_fu a0 (0 : Int32) (0 : Int32) h hf
def fX7_there (a0 : Nat) (h : gz_H) : Option (Int32 × gz_H) := fX7_there_0 a0 h
theorem sX7_there {G : gz_G} {d : Nat} {a0 : Nat} {h : gz_H} {Q : Int32 → gz_H → Prop} (hf : gz_g (fX7_there a0 h) Q) : gz_Cl G mX7_there (d + 1) 0 0 [.ref a0] h (gz_qi Q) := gz_cl_of (lo := [.ref a0, .retAddr 0, .retAddr 0]) (by decide) rfl rfl (Nat.le_of_ble_eq_true rfl) (sX7_there_0 a0 h hf)
theorem dX7_digestFrom_0 : decode cX7_digestFrom 0 = .ok (.lload_n 1, 1) := by decide +kernel
theorem dX7_digestFrom_1 : decode cX7_digestFrom 1 = .ok (.lstore_n 3, 1) := by decide +kernel
theorem dX7_digestFrom_2 : decode cX7_digestFrom 2 = .ok (.iconst 0, 1) := by decide +kernel
theorem dX7_digestFrom_3 : decode cX7_digestFrom 3 = .ok (.istore 5, 2) := by decide +kernel
theorem dX7_digestFrom_5 : decode cX7_digestFrom 5 = .ok (.iload 5, 2) := by decide +kernel
theorem dX7_digestFrom_7 : decode cX7_digestFrom 7 = .ok (.aload_n 0, 1) := by decide +kernel
theorem dX7_digestFrom_8 : decode cX7_digestFrom 8 = .ok (.getfield 20, 3) := by decide +kernel
theorem dX7_digestFrom_11 : decode cX7_digestFrom 11 = .ok (.arraylength, 1) := by decide +kernel
theorem dX7_digestFrom_12 : decode cX7_digestFrom 12 = .ok (.if_icmp .ge 63, 3) := by decide +kernel
theorem dX7_digestFrom_15 : decode cX7_digestFrom 15 = .ok (.ldc2_w 34, 3) := by decide +kernel
theorem dX7_digestFrom_18 : decode cX7_digestFrom 18 = .ok (.lload_n 3, 1) := by decide +kernel
theorem dX7_digestFrom_19 : decode cX7_digestFrom 19 = .ok (.lmul, 1) := by decide +kernel
theorem dX7_digestFrom_20 : decode cX7_digestFrom 20 = .ok (.aload_n 0, 1) := by decide +kernel
theorem dX7_digestFrom_21 : decode cX7_digestFrom 21 = .ok (.getfield 20, 3) := by decide +kernel
theorem dX7_digestFrom_24 : decode cX7_digestFrom 24 = .ok (.iload 5, 2) := by decide +kernel
theorem dX7_digestFrom_26 : decode cX7_digestFrom 26 = .ok (.iaload, 1) := by decide +kernel
theorem dX7_digestFrom_27 : decode cX7_digestFrom 27 = .ok (.i2l, 1) := by decide +kernel
theorem dX7_digestFrom_28 : decode cX7_digestFrom 28 = .ok (.ladd, 1) := by decide +kernel
theorem dX7_digestFrom_29 : decode cX7_digestFrom 29 = .ok (.lstore_n 3, 1) := by decide +kernel
theorem dX7_digestFrom_30 : decode cX7_digestFrom 30 = .ok (.iconst 0, 1) := by decide +kernel
theorem dX7_digestFrom_31 : decode cX7_digestFrom 31 = .ok (.istore 6, 2) := by decide +kernel
theorem dX7_digestFrom_33 : decode cX7_digestFrom 33 = .ok (.iload 6, 2) := by decide +kernel
theorem dX7_digestFrom_35 : decode cX7_digestFrom 35 = .ok (.aload_n 0, 1) := by decide +kernel
theorem dX7_digestFrom_36 : decode cX7_digestFrom 36 = .ok (.getfield 20, 3) := by decide +kernel
theorem dX7_digestFrom_39 : decode cX7_digestFrom 39 = .ok (.iload 5, 2) := by decide +kernel
theorem dX7_digestFrom_41 : decode cX7_digestFrom 41 = .ok (.iaload, 1) := by decide +kernel
theorem dX7_digestFrom_42 : decode cX7_digestFrom 42 = .ok (.if_icmp .ge 27, 3) := by decide +kernel
theorem dX7_digestFrom_45 : decode cX7_digestFrom 45 = .ok (.ldc2_w 34, 3) := by decide +kernel
theorem dX7_digestFrom_48 : decode cX7_digestFrom 48 = .ok (.lload_n 3, 1) := by decide +kernel
theorem dX7_digestFrom_49 : decode cX7_digestFrom 49 = .ok (.lmul, 1) := by decide +kernel
theorem dX7_digestFrom_50 : decode cX7_digestFrom 50 = .ok (.aload_n 0, 1) := by decide +kernel
theorem dX7_digestFrom_51 : decode cX7_digestFrom 51 = .ok (.getfield 17, 3) := by decide +kernel
theorem dX7_digestFrom_54 : decode cX7_digestFrom 54 = .ok (.iload 5, 2) := by decide +kernel
theorem dX7_digestFrom_56 : decode cX7_digestFrom 56 = .ok (.aaload, 1) := by decide +kernel
theorem dX7_digestFrom_57 : decode cX7_digestFrom 57 = .ok (.iload 6, 2) := by decide +kernel
theorem dX7_digestFrom_59 : decode cX7_digestFrom 59 = .ok (.iaload, 1) := by decide +kernel
theorem dX7_digestFrom_60 : decode cX7_digestFrom 60 = .ok (.i2l, 1) := by decide +kernel
theorem dX7_digestFrom_61 : decode cX7_digestFrom 61 = .ok (.ladd, 1) := by decide +kernel
theorem dX7_digestFrom_62 : decode cX7_digestFrom 62 = .ok (.lstore_n 3, 1) := by decide +kernel
theorem dX7_digestFrom_63 : decode cX7_digestFrom 63 = .ok (.iinc 6 1, 3) := by decide +kernel
theorem dX7_digestFrom_66 : decode cX7_digestFrom 66 = .ok (.goto (-33), 3) := by decide +kernel
theorem dX7_digestFrom_69 : decode cX7_digestFrom 69 = .ok (.iinc 5 1, 3) := by decide +kernel
theorem dX7_digestFrom_72 : decode cX7_digestFrom 72 = .ok (.goto (-67), 3) := by decide +kernel
theorem dX7_digestFrom_75 : decode cX7_digestFrom 75 = .ok (.lload_n 3, 1) := by decide +kernel
theorem dX7_digestFrom_76 : decode cX7_digestFrom 76 = .ok (.lreturn, 1) := by decide +kernel
def fX7_digestFrom_33 (k5 : Nat → Int64 → Int32 → gz_H → Option (Int64 × gz_H)) : Nat → Nat → Int64 → Int32 → Int32 → gz_H → Option (Int64 × gz_H)
  | 0, _, _, _, _, _ => none
  | n + 1, a0, x3, x5, x6, h =>
    gz_ck (gz_sh h a0 7 3) <|
    gz_br (h.2.2.2 a0 2) fun r_2 =>
    gz_ck (gz_inb h r_2 10 x5) <|
    if (h.2.1 r_2 x5.toNatClampNeg) ≤ x6 then (
     k5 a0 x3 (x5 + 1) h
    ) else (
     gz_br (h.2.2.2 a0 1) fun r_5 =>
     gz_ck (gz_inb h r_5 13 x5) <|
     gz_br (h.2.2.2 r_5 x5.toNatClampNeg) fun r_7 =>
     gz_ck (gz_inb h r_7 10 x6) <|
     gz_lt (((31 : Int64) * x3) + ((h.2.1 r_7 x6.toNatClampNeg).toInt64)) fun (y_9 : Int64) =>
     fX7_digestFrom_33 k5 n a0 y_9 x5 (x6 + 1) h
    )
set_option maxRecDepth 100000 in
set_option maxHeartbeats 1000000 in
theorem sX7_digestFrom_33 {G : gz_G} {d l0 s0 : Nat} {Q : Int64 → gz_H → Prop} {k5 : Nat → Int64 → Int32 → gz_H → Option (Int64 × gz_H)} (hk5 : ∀ (a0 : Nat) (x3 : Int64) (x5 : Int32) (h : gz_H), gz_g (k5 a0 x3 x5 h) Q → gz_Ok G mX7_digestFrom (d + 0, l0, s0, 0, 0) 5 [.ref a0, .retAddr 0, .retAddr 0, .long x3, .retAddr 0, .int x5, .retAddr 0] [] h (gz_ql Q)) : ∀ (n : Nat) (a0 : Nat) (x3 : Int64) (x5 : Int32) (x6 : Int32) (h : gz_H), gz_g (fX7_digestFrom_33 k5 n a0 x3 x5 x6 h) Q → gz_Ok G mX7_digestFrom (d + 0, l0, s0, 0, 0) 33 [.ref a0, .retAddr 0, .retAddr 0, .long x3, .retAddr 0, .int x5, .int x6] [] h (gz_ql Q) := by
  intro n
  induction n with
  | zero => intro a0 x3 x5 x6 h hf; exact False.elim hf
  | succ n ih =>
    intro a0 x3 x5 x6 h hf
    rw [fX7_digestFrom_33] at hf
    refine gz_iload (pc := 33) dX7_digestFrom_33 rfl ?_
    refine gz_aload_n (pc := 35) dX7_digestFrom_35 rfl rfl ?_
    refine gz_gk hf (fun c_1 hf => ?_)
    refine gz_gb hf (fun r_2 er_2 hf => ?_)
    refine gz_getR (pc := 36) dX7_digestFrom_36 fl_RX7_20 rfl (gz_shs c_1) er_2 ?_
    refine gz_iload (pc := 39) dX7_digestFrom_39 rfl ?_
    refine gz_gk hf (fun c_3 hf => ?_)
    refine gz_iald (pc := 41) dX7_digestFrom_41 c_3 ?_
    refine gz_icmp_ge (tgt := 69) (pc := 42) dX7_digestFrom_42 rfl (fun c_4 => ?_) (fun c_4 => ?_)
    · have hf := gz_gT hf c_4
      refine gz_iinc (v := x5 + 1) (lv := [.ref a0, .retAddr 0, .retAddr 0, .long x3, .retAddr 0, .int (x5 + 1), .int x6]) (pc := 69) dX7_digestFrom_69 rfl rfl (by decide) rfl ?_
      refine gz_goto (tgt := 5) (pc := 72) dX7_digestFrom_72 rfl ?_
      refine gz_fg (lv := [.ref a0, .retAddr 0, .retAddr 0, .long x3, .retAddr 0, .int (x5 + 1), .retAddr 0]) ⟨Or.inr rfl, ⟨Or.inl rfl, ⟨Or.inl rfl, ⟨Or.inr rfl, ⟨Or.inl rfl, ⟨Or.inr rfl, ⟨Or.inl rfl, trivial⟩⟩⟩⟩⟩⟩⟩ ?_
      exact hk5 a0 x3 (x5 + 1) h hf
    · have hf := gz_gF hf c_4
      refine gz_ldc2 (v := (31 : Int64)) (pc := 45) dX7_digestFrom_45 kc_RX7_34 ?_
      refine gz_lload_n (pc := 48) dX7_digestFrom_48 rfl rfl ?_
      refine gz_lmul (pc := 49) dX7_digestFrom_49 ?_
      refine gz_aload_n (pc := 50) dX7_digestFrom_50 rfl rfl ?_
      refine gz_gb hf (fun r_5 er_5 hf => ?_)
      refine gz_getR (pc := 51) dX7_digestFrom_51 fl_RX7_17 rfl (gz_shs c_1) er_5 ?_
      refine gz_iload (pc := 54) dX7_digestFrom_54 rfl ?_
      refine gz_gk hf (fun c_6 hf => ?_)
      refine gz_gb hf (fun r_7 er_7 hf => ?_)
      refine gz_aald (Or.inr (Or.inr rfl)) (pc := 56) dX7_digestFrom_56 c_6 er_7 ?_
      refine gz_iload (pc := 57) dX7_digestFrom_57 rfl ?_
      refine gz_gk hf (fun c_8 hf => ?_)
      refine gz_iald (pc := 59) dX7_digestFrom_59 c_8 ?_
      refine gz_i2l (pc := 60) dX7_digestFrom_60 ?_
      refine gz_ladd (pc := 61) dX7_digestFrom_61 ?_
      refine gz_nmL (fun y_9 ey_9 => ?_)
      have hf := gz_gl ey_9 hf
      refine gz_lstore_n (lv := [.ref a0, .retAddr 0, .retAddr 0, .long y_9, .retAddr 0, .int x5, .int x6]) (pc := 62) dX7_digestFrom_62 rfl (by decide) rfl ?_
      refine gz_iinc (v := x6 + 1) (lv := [.ref a0, .retAddr 0, .retAddr 0, .long y_9, .retAddr 0, .int x5, .int (x6 + 1)]) (pc := 63) dX7_digestFrom_63 rfl rfl (by decide) rfl ?_
      refine gz_goto (tgt := 33) (pc := 66) dX7_digestFrom_66 rfl ?_
      exact ih a0 y_9 x5 (x6 + 1) h hf
def fX7_digestFrom_5  : Nat → Nat → Int64 → Int32 → gz_H → Option (Int64 × gz_H)
  | 0, _, _, _, _ => none
  | n + 1, a0, x3, x5, h =>
    gz_ck (gz_sh h a0 7 3) <|
    gz_br (h.2.2.2 a0 2) fun r_2 =>
    gz_bi (gz_len h r_2) fun y_3 =>
    if y_3 ≤ x5 then (
     some (x3, h)
    ) else (
     gz_ck (gz_inb h r_2 10 x5) <|
     gz_lt (((31 : Int64) * x3) + ((h.2.1 r_2 x5.toNatClampNeg).toInt64)) fun (y_6 : Int64) =>
     fX7_digestFrom_33 (fun z0 z1 z2 zh => fX7_digestFrom_5 n z0 z1 z2 zh) gz_fu a0 y_6 x5 (0 : Int32) h
    )
set_option maxRecDepth 100000 in
set_option maxHeartbeats 1000000 in
theorem sX7_digestFrom_5 {G : gz_G} {d l0 s0 : Nat} {Q : Int64 → gz_H → Prop} : ∀ (n : Nat) (a0 : Nat) (x3 : Int64) (x5 : Int32) (h : gz_H), gz_g (fX7_digestFrom_5  n a0 x3 x5 h) Q → gz_Ok G mX7_digestFrom (d + 0, l0, s0, 0, 0) 5 [.ref a0, .retAddr 0, .retAddr 0, .long x3, .retAddr 0, .int x5, .retAddr 0] [] h (gz_ql Q) := by
  intro n
  induction n with
  | zero => intro a0 x3 x5 h hf; exact False.elim hf
  | succ n ih =>
    intro a0 x3 x5 h hf
    rw [fX7_digestFrom_5] at hf
    refine gz_iload (pc := 5) dX7_digestFrom_5 rfl ?_
    refine gz_aload_n (pc := 7) dX7_digestFrom_7 rfl rfl ?_
    refine gz_gk hf (fun c_1 hf => ?_)
    refine gz_gb hf (fun r_2 er_2 hf => ?_)
    refine gz_getR (pc := 8) dX7_digestFrom_8 fl_RX7_20 rfl (gz_shs c_1) er_2 ?_
    refine gz_gi hf (fun y_3 ey_3 hf => ?_)
    refine gz_alen (pc := 11) dX7_digestFrom_11 ey_3 ?_
    refine gz_icmp_ge (tgt := 75) (pc := 12) dX7_digestFrom_12 rfl (fun c_4 => ?_) (fun c_4 => ?_)
    · have hf := gz_gT hf c_4
      refine gz_lload_n (pc := 75) dX7_digestFrom_75 rfl rfl ?_
      exact gz_lrt (pc := 76) dX7_digestFrom_76 rfl hf
    · have hf := gz_gF hf c_4
      refine gz_ldc2 (v := (31 : Int64)) (pc := 15) dX7_digestFrom_15 kc_RX7_34 ?_
      refine gz_lload_n (pc := 18) dX7_digestFrom_18 rfl rfl ?_
      refine gz_lmul (pc := 19) dX7_digestFrom_19 ?_
      refine gz_aload_n (pc := 20) dX7_digestFrom_20 rfl rfl ?_
      refine gz_getR (pc := 21) dX7_digestFrom_21 fl_RX7_20 rfl (gz_shs c_1) er_2 ?_
      refine gz_iload (pc := 24) dX7_digestFrom_24 rfl ?_
      refine gz_gk hf (fun c_5 hf => ?_)
      refine gz_iald (pc := 26) dX7_digestFrom_26 c_5 ?_
      refine gz_i2l (pc := 27) dX7_digestFrom_27 ?_
      refine gz_ladd (pc := 28) dX7_digestFrom_28 ?_
      refine gz_nmL (fun y_6 ey_6 => ?_)
      have hf := gz_gl ey_6 hf
      refine gz_lstore_n (lv := [.ref a0, .retAddr 0, .retAddr 0, .long y_6, .retAddr 0, .int x5, .retAddr 0]) (pc := 29) dX7_digestFrom_29 rfl (by decide) rfl ?_
      refine gz_iconst (v := (0 : Int32)) (pc := 30) dX7_digestFrom_30 rfl ?_
      refine gz_istore (lv := [.ref a0, .retAddr 0, .retAddr 0, .long y_6, .retAddr 0, .int x5, .int (0 : Int32)]) (pc := 31) dX7_digestFrom_31 (by decide) rfl ?_
      exact sX7_digestFrom_33 ih gz_fu a0 y_6 x5 (0 : Int32) h hf
def fX7_digestFrom_0  (a0 : Nat) (x1 : Int64) (h : gz_H) : Option (Int64 × gz_H) :=
    fX7_digestFrom_5 gz_fu a0 x1 (0 : Int32) h
set_option maxRecDepth 100000 in
set_option maxHeartbeats 1000000 in
theorem sX7_digestFrom_0 {G : gz_G} {d l0 s0 : Nat} {Q : Int64 → gz_H → Prop} (a0 : Nat) (x1 : Int64) (h : gz_H) (hf : gz_g (fX7_digestFrom_0  a0 x1 h) Q) : gz_Ok G mX7_digestFrom (d + 0, l0, s0, 0, 0) 0 [.ref a0, .long x1, .retAddr 0, .retAddr 0, .retAddr 0, .retAddr 0, .retAddr 0] [] h (gz_ql Q) := by
  unfold fX7_digestFrom_0 at hf
  refine gz_lload_n (pc := 0) dX7_digestFrom_0 rfl rfl ?_
  refine gz_lstore_n (lv := [.ref a0, .long x1, .retAddr 0, .long x1, .retAddr 0, .retAddr 0, .retAddr 0]) (pc := 1) dX7_digestFrom_1 rfl (by decide) rfl ?_
  refine gz_iconst (v := (0 : Int32)) (pc := 2) dX7_digestFrom_2 rfl ?_
  refine gz_istore (lv := [.ref a0, .long x1, .retAddr 0, .long x1, .retAddr 0, .int (0 : Int32), .retAddr 0]) (pc := 3) dX7_digestFrom_3 (by decide) rfl ?_
  refine gz_fg (lv := [.ref a0, .retAddr 0, .retAddr 0, .long x1, .retAddr 0, .int (0 : Int32), .retAddr 0]) ⟨Or.inr rfl, ⟨Or.inl rfl, ⟨Or.inl rfl, ⟨Or.inr rfl, ⟨Or.inl rfl, ⟨Or.inr rfl, ⟨Or.inl rfl, trivial⟩⟩⟩⟩⟩⟩⟩ ?_
  exact sX7_digestFrom_5 gz_fu a0 x1 (0 : Int32) h hf
def fX7_digestFrom (a0 : Nat) (x1 : Int64) (h : gz_H) : Option (Int64 × gz_H) := fX7_digestFrom_0 a0 x1 h
theorem sX7_digestFrom {G : gz_G} {d : Nat} {a0 : Nat} {x1 : Int64} {h : gz_H} {Q : Int64 → gz_H → Prop} (hf : gz_g (fX7_digestFrom a0 x1 h) Q) : gz_Cl G mX7_digestFrom (d + 0) 0 0 [.ref a0, .long x1] h (gz_ql Q) := gz_cl_of (lo := [.ref a0, .long x1, .retAddr 0, .retAddr 0, .retAddr 0, .retAddr 0, .retAddr 0]) (by decide) rfl rfl (Nat.le_of_ble_eq_true rfl) (sX7_digestFrom_0 a0 x1 h hf)
theorem dX8_init_0 : decode cX8_init 0 = .ok (.aload_n 0, 1) := by decide +kernel
theorem dX8_init_1 : decode cX8_init 1 = .ok (.invokespecial 1, 3) := by decide +kernel
theorem dX8_init_4 : decode cX8_init 4 = .ok (.aload_n 0, 1) := by decide +kernel
theorem dX8_init_5 : decode cX8_init 5 = .ok (.new 7, 3) := by decide +kernel
theorem dX8_init_8 : decode cX8_init 8 = .ok (.dup, 1) := by decide +kernel
theorem dX8_init_9 : decode cX8_init 9 = .ok (.bipush 6, 2) := by decide +kernel
theorem dX8_init_11 : decode cX8_init 11 = .ok (.bipush 40, 2) := by decide +kernel
theorem dX8_init_13 : decode cX8_init 13 = .ok (.invokespecial 11, 3) := by decide +kernel
theorem dX8_init_16 : decode cX8_init 16 = .ok (.putfield 14, 3) := by decide +kernel
theorem dX8_init_19 : decode cX8_init 19 = .ok (.aload_n 0, 1) := by decide +kernel
theorem dX8_init_20 : decode cX8_init 20 = .ok (.new 7, 3) := by decide +kernel
theorem dX8_init_23 : decode cX8_init 23 = .ok (.dup, 1) := by decide +kernel
theorem dX8_init_24 : decode cX8_init 24 = .ok (.iconst 4, 1) := by decide +kernel
theorem dX8_init_25 : decode cX8_init 25 = .ok (.bipush 80, 2) := by decide +kernel
theorem dX8_init_27 : decode cX8_init 27 = .ok (.invokespecial 11, 3) := by decide +kernel
theorem dX8_init_30 : decode cX8_init 30 = .ok (.putfield 18, 3) := by decide +kernel
theorem dX8_init_33 : decode cX8_init 33 = .ok (.aload_n 0, 1) := by decide +kernel
theorem dX8_init_34 : decode cX8_init 34 = .ok (.new 21, 3) := by decide +kernel
theorem dX8_init_37 : decode cX8_init 37 = .ok (.dup, 1) := by decide +kernel
theorem dX8_init_38 : decode cX8_init 38 = .ok (.invokespecial 23, 3) := by decide +kernel
theorem dX8_init_41 : decode cX8_init 41 = .ok (.putfield 24, 3) := by decide +kernel
theorem dX8_init_44 : decode cX8_init 44 = .ok (.aload_n 0, 1) := by decide +kernel
theorem dX8_init_45 : decode cX8_init 45 = .ok (.new 28, 3) := by decide +kernel
theorem dX8_init_48 : decode cX8_init 48 = .ok (.dup, 1) := by decide +kernel
theorem dX8_init_49 : decode cX8_init 49 = .ok (.invokespecial 30, 3) := by decide +kernel
theorem dX8_init_52 : decode cX8_init 52 = .ok (.putfield 31, 3) := by decide +kernel
theorem dX8_init_55 : decode cX8_init 55 = .ok (.aload_n 0, 1) := by decide +kernel
theorem dX8_init_56 : decode cX8_init 56 = .ok (.new 35, 3) := by decide +kernel
theorem dX8_init_59 : decode cX8_init 59 = .ok (.dup, 1) := by decide +kernel
theorem dX8_init_60 : decode cX8_init 60 = .ok (.invokespecial 37, 3) := by decide +kernel
theorem dX8_init_63 : decode cX8_init 63 = .ok (.putfield 38, 3) := by decide +kernel
theorem dX8_init_66 : decode cX8_init 66 = .ok (.aload_n 0, 1) := by decide +kernel
theorem dX8_init_67 : decode cX8_init 67 = .ok (.new 42, 3) := by decide +kernel
theorem dX8_init_70 : decode cX8_init 70 = .ok (.dup, 1) := by decide +kernel
theorem dX8_init_71 : decode cX8_init 71 = .ok (.invokespecial 44, 3) := by decide +kernel
theorem dX8_init_74 : decode cX8_init 74 = .ok (.putfield 45, 3) := by decide +kernel
theorem dX8_init_77 : decode cX8_init 77 = .ok (.aload_n 0, 1) := by decide +kernel
theorem dX8_init_78 : decode cX8_init 78 = .ok (.new 49, 3) := by decide +kernel
theorem dX8_init_81 : decode cX8_init 81 = .ok (.dup, 1) := by decide +kernel
theorem dX8_init_82 : decode cX8_init 82 = .ok (.invokespecial 51, 3) := by decide +kernel
theorem dX8_init_85 : decode cX8_init 85 = .ok (.putfield 52, 3) := by decide +kernel
theorem dX8_init_88 : decode cX8_init 88 = .ok (.aload_n 0, 1) := by decide +kernel
theorem dX8_init_89 : decode cX8_init 89 = .ok (.new 56, 3) := by decide +kernel
theorem dX8_init_92 : decode cX8_init 92 = .ok (.dup, 1) := by decide +kernel
theorem dX8_init_93 : decode cX8_init 93 = .ok (.invokespecial 58, 3) := by decide +kernel
theorem dX8_init_96 : decode cX8_init 96 = .ok (.putfield 59, 3) := by decide +kernel
theorem dX8_init_99 : decode cX8_init 99 = .ok (.aload_n 0, 1) := by decide +kernel
theorem dX8_init_100 : decode cX8_init 100 = .ok (.iconst 3, 1) := by decide +kernel
theorem dX8_init_101 : decode cX8_init 101 = .ok (.anewarray 56, 3) := by decide +kernel
theorem dX8_init_104 : decode cX8_init 104 = .ok (.putfield 63, 3) := by decide +kernel
theorem dX8_init_107 : decode cX8_init 107 = .ok (.aload_n 0, 1) := by decide +kernel
theorem dX8_init_108 : decode cX8_init 108 = .ok (.new 67, 3) := by decide +kernel
theorem dX8_init_111 : decode cX8_init 111 = .ok (.dup, 1) := by decide +kernel
theorem dX8_init_112 : decode cX8_init 112 = .ok (.invokespecial 69, 3) := by decide +kernel
theorem dX8_init_115 : decode cX8_init 115 = .ok (.putfield 70, 3) := by decide +kernel
theorem dX8_init_118 : decode cX8_init 118 = .ok (.aload_n 0, 1) := by decide +kernel
theorem dX8_init_119 : decode cX8_init 119 = .ok (.new 67, 3) := by decide +kernel
theorem dX8_init_122 : decode cX8_init 122 = .ok (.dup, 1) := by decide +kernel
theorem dX8_init_123 : decode cX8_init 123 = .ok (.invokespecial 69, 3) := by decide +kernel
theorem dX8_init_126 : decode cX8_init 126 = .ok (.putfield 74, 3) := by decide +kernel
theorem dX8_init_129 : decode cX8_init 129 = .ok (.aload_n 0, 1) := by decide +kernel
theorem dX8_init_130 : decode cX8_init 130 = .ok (.new 67, 3) := by decide +kernel
theorem dX8_init_133 : decode cX8_init 133 = .ok (.dup, 1) := by decide +kernel
theorem dX8_init_134 : decode cX8_init 134 = .ok (.invokespecial 69, 3) := by decide +kernel
theorem dX8_init_137 : decode cX8_init 137 = .ok (.putfield 77, 3) := by decide +kernel
theorem dX8_init_140 : decode cX8_init 140 = .ok (.aload_n 0, 1) := by decide +kernel
theorem dX8_init_141 : decode cX8_init 141 = .ok (.bipush 6, 2) := by decide +kernel
theorem dX8_init_143 : decode cX8_init 143 = .ok (.newarray .int, 2) := by decide +kernel
theorem dX8_init_145 : decode cX8_init 145 = .ok (.putfield 80, 3) := by decide +kernel
theorem dX8_init_148 : decode cX8_init 148 = .ok (.aload_n 0, 1) := by decide +kernel
theorem dX8_init_149 : decode cX8_init 149 = .ok (.bipush 6, 2) := by decide +kernel
theorem dX8_init_151 : decode cX8_init 151 = .ok (.newarray .int, 2) := by decide +kernel
theorem dX8_init_153 : decode cX8_init 153 = .ok (.putfield 84, 3) := by decide +kernel
theorem dX8_init_156 : decode cX8_init 156 = .ok (.aload_n 0, 1) := by decide +kernel
theorem dX8_init_157 : decode cX8_init 157 = .ok (.bipush 36, 2) := by decide +kernel
theorem dX8_init_159 : decode cX8_init 159 = .ok (.newarray .int, 2) := by decide +kernel
theorem dX8_init_161 : decode cX8_init 161 = .ok (.putfield 87, 3) := by decide +kernel
theorem dX8_init_164 : decode cX8_init 164 = .ok (.aload_n 0, 1) := by decide +kernel
theorem dX8_init_165 : decode cX8_init 165 = .ok (.sipush 256, 3) := by decide +kernel
theorem dX8_init_168 : decode cX8_init 168 = .ok (.newarray .int, 2) := by decide +kernel
theorem dX8_init_170 : decode cX8_init 170 = .ok (.putfield 90, 3) := by decide +kernel
theorem dX8_init_173 : decode cX8_init 173 = .ok (.aload_n 0, 1) := by decide +kernel
theorem dX8_init_174 : decode cX8_init 174 = .ok (.bipush 8, 2) := by decide +kernel
theorem dX8_init_176 : decode cX8_init 176 = .ok (.newarray .int, 2) := by decide +kernel
theorem dX8_init_178 : decode cX8_init 178 = .ok (.putfield 93, 3) := by decide +kernel
theorem dX8_init_181 : decode cX8_init 181 = .ok (.aload_n 0, 1) := by decide +kernel
theorem dX8_init_182 : decode cX8_init 182 = .ok (.bipush 8, 2) := by decide +kernel
theorem dX8_init_184 : decode cX8_init 184 = .ok (.newarray .int, 2) := by decide +kernel
theorem dX8_init_186 : decode cX8_init 186 = .ok (.putfield 96, 3) := by decide +kernel
theorem dX8_init_189 : decode cX8_init 189 = .ok (.iconst 0, 1) := by decide +kernel
theorem dX8_init_190 : decode cX8_init 190 = .ok (.istore_n 1, 1) := by decide +kernel
theorem dX8_init_191 : decode cX8_init 191 = .ok (.iload_n 1, 1) := by decide +kernel
theorem dX8_init_192 : decode cX8_init 192 = .ok (.iconst 3, 1) := by decide +kernel
theorem dX8_init_193 : decode cX8_init 193 = .ok (.if_icmp .ge 32, 3) := by decide +kernel
theorem dX8_init_196 : decode cX8_init 196 = .ok (.aload_n 0, 1) := by decide +kernel
theorem dX8_init_197 : decode cX8_init 197 = .ok (.getfield 63, 3) := by decide +kernel
theorem dX8_init_200 : decode cX8_init 200 = .ok (.iload_n 1, 1) := by decide +kernel
theorem dX8_init_201 : decode cX8_init 201 = .ok (.new 56, 3) := by decide +kernel
theorem dX8_init_204 : decode cX8_init 204 = .ok (.dup, 1) := by decide +kernel
theorem dX8_init_205 : decode cX8_init 205 = .ok (.invokespecial 58, 3) := by decide +kernel
theorem dX8_init_208 : decode cX8_init 208 = .ok (.aastore, 1) := by decide +kernel
theorem dX8_init_209 : decode cX8_init 209 = .ok (.aload_n 0, 1) := by decide +kernel
theorem dX8_init_210 : decode cX8_init 210 = .ok (.getfield 63, 3) := by decide +kernel
theorem dX8_init_213 : decode cX8_init 213 = .ok (.iload_n 1, 1) := by decide +kernel
theorem dX8_init_214 : decode cX8_init 214 = .ok (.aaload, 1) := by decide +kernel
theorem dX8_init_215 : decode cX8_init 215 = .ok (.iconst (-1), 1) := by decide +kernel
theorem dX8_init_216 : decode cX8_init 216 = .ok (.putfield 99, 3) := by decide +kernel
theorem dX8_init_219 : decode cX8_init 219 = .ok (.iinc 1 1, 3) := by decide +kernel
theorem dX8_init_222 : decode cX8_init 222 = .ok (.goto (-31), 3) := by decide +kernel
theorem dX8_init_225 : decode cX8_init 225 = .ok (.return_, 1) := by decide +kernel
def fX8_init_191 (l0 s0 mc ms : Nat) : Nat → Nat → Int32 → gz_H → Option (Unit × gz_H)
  | 0, _, _, _ => none
  | n + 1, a0, x1, h =>
    if (3 : Int32) ≤ x1 then (
     gz_ck (gz_dc (l0 + mc = h.1.length ∧ s0 + ms = gz_ss h.1)) <|
     some ((), h)
    ) else (
     gz_ck (gz_sh h a0 8 19) <|
     gz_br (h.2.2.2 a0 8) fun r_4 =>
     gz_ck (gz_dc (h.1.length < 999999 ∧ (h.1.length + 1 ≤ l0 + mc ∧ gz_ss h.1 + 2 ≤ s0 + ms))) <|
     gz_lt (gz_al h (3, 2)) fun h_6 =>
     gz_ck (gz_dc (h_6.1.length + 1 ≤ l0 + mc ∧ gz_ss h_6.1 + 40 ≤ s0 + ms)) <|
     gz_b2 (fX3_init 1 40 h.1.length h_6) fun _ h_7 =>
     gz_ck (gz_inb h_7 r_4 12 x1) <|
     gz_ck (gz_sh h_7 h.1.length 3 2) <|
     gz_lt (uR h_7 r_4 x1.toNatClampNeg (some h.1.length)) fun h_12 =>
     gz_ck (gz_sh h_12 a0 8 19) <|
     gz_br (h_12.2.2.2 a0 8) fun r_14 =>
     gz_ck (gz_inb h_12 r_14 12 x1) <|
     gz_br (h_12.2.2.2 r_14 x1.toNatClampNeg) fun r_16 =>
     gz_ck (gz_sh h_12 r_16 3 2) <|
     gz_lt (uI h_12 r_16 1 (-1 : Int32)) fun h_18 =>
     fX8_init_191 l0 s0 mc ms n a0 (x1 + 1) h_18
    )
set_option maxRecDepth 100000 in
set_option maxHeartbeats 1000000 in
theorem sX8_init_191 {G : gz_G} {d l0 s0 mc ms : Nat} {Q : Unit → gz_H → Prop} : ∀ (n : Nat) (a0 : Nat) (x1 : Int32) (h : gz_H), gz_g (fX8_init_191 l0 s0 mc ms n a0 x1 h) Q → gz_Ok G mX8_init (d + 3, l0, s0, mc, ms) 191 [.ref a0, .int x1] [] h (gz_qu Q) := by
  intro n
  induction n with
  | zero => intro a0 x1 h hf; exact False.elim hf
  | succ n ih =>
    intro a0 x1 h hf
    rw [fX8_init_191] at hf
    refine gz_iload_n (pc := 191) dX8_init_191 rfl rfl ?_
    refine gz_iconst (v := (3 : Int32)) (pc := 192) dX8_init_192 rfl ?_
    refine gz_icmp_ge (tgt := 225) (pc := 193) dX8_init_193 rfl (fun c_1 => ?_) (fun c_1 => ?_)
    · have hf := gz_gT hf c_1
      refine gz_gk hf (fun c_2 hf => ?_)
      exact gz_uretA (pc := 225) dX8_init_225 rfl (gz_dcs c_2).1 (gz_dcs c_2).2 hf
    · have hf := gz_gF hf c_1
      refine gz_aload_n (pc := 196) dX8_init_196 rfl rfl ?_
      refine gz_gk hf (fun c_3 hf => ?_)
      refine gz_gb hf (fun r_4 er_4 hf => ?_)
      refine gz_getR (pc := 197) dX8_init_197 fl_RX8_63 rfl (gz_shs c_3) er_4 ?_
      refine gz_iload_n (pc := 200) dX8_init_200 rfl rfl ?_
      refine gz_gk hf (fun c_5 hf => ?_)
      refine gz_new (pc := 201) dX8_init_201 kn_RX8_56 (gz_dcs c_5).1 (gz_dcs c_5).2 ?_
      refine gz_nmH (fun h_6 eh_6 => ?_)
      have hf := gz_gl eh_6 hf
      refine gz_dup (pc := 204) dX8_init_204 rfl ?_
      refine gz_gk hf (fun c_9 hf => ?_)
      refine gz_cIV (av := []) (st := [.ref h.1.length, .int x1, .ref r_4]) (pc := 205) dX8_init_205 kl_RX8_58 rfl rfl (Nat.le_of_ble_eq_true rfl) (by show d + 1 + 1 + 1 ≤ d + 3; omega) (gz_dcs c_9) (sX3_init (d := d + 1) (mc := 1) (ms := 40) (gz_gc hf)) (fun _ h_7 hf => ?_)
      refine gz_gk hf (fun c_10 hf => ?_)
      refine gz_gk hf (fun c_11 hf => ?_)
      refine gz_aast (Or.inr ⟨rfl, rfl, rfl⟩) (pc := 208) dX8_init_208 c_10 (gz_shs c_11) ?_
      refine gz_nmH (fun h_12 eh_12 => ?_)
      have hf := gz_gl eh_12 hf
      refine gz_aload_n (pc := 209) dX8_init_209 rfl rfl ?_
      refine gz_gk hf (fun c_13 hf => ?_)
      refine gz_gb hf (fun r_14 er_14 hf => ?_)
      refine gz_getR (pc := 210) dX8_init_210 fl_RX8_63 rfl (gz_shs c_13) er_14 ?_
      refine gz_iload_n (pc := 213) dX8_init_213 rfl rfl ?_
      refine gz_gk hf (fun c_15 hf => ?_)
      refine gz_gb hf (fun r_16 er_16 hf => ?_)
      refine gz_aald (Or.inr (Or.inl rfl)) (pc := 214) dX8_init_214 c_15 er_16 ?_
      refine gz_iconst (v := (-1 : Int32)) (pc := 215) dX8_init_215 rfl ?_
      refine gz_gk hf (fun c_17 hf => ?_)
      refine gz_putI (pc := 216) dX8_init_216 fw_X8_init_99 rfl rfl rfl (gz_shs c_17) ?_
      refine gz_nmH (fun h_18 eh_18 => ?_)
      have hf := gz_gl eh_18 hf
      refine gz_iinc (v := x1 + 1) (lv := [.ref a0, .int (x1 + 1)]) (pc := 219) dX8_init_219 rfl rfl (by decide) rfl ?_
      refine gz_goto (tgt := 191) (pc := 222) dX8_init_222 rfl ?_
      exact ih a0 (x1 + 1) h_18 hf
def fX8_init_0 (l0 s0 mc ms : Nat) (a0 : Nat) (h : gz_H) : Option (Unit × gz_H) :=
    gz_ck (gz_dc (h.1.length < 999999 ∧ (h.1.length + 1 ≤ l0 + mc ∧ gz_ss h.1 + 3 ≤ s0 + ms))) <|
    gz_lt (gz_al h (7, 3)) fun h_2 =>
    gz_ck (gz_dc (h_2.1.length + 8 ≤ l0 + mc ∧ gz_ss h_2.1 + 252 ≤ s0 + ms)) <|
    gz_b2 (fX7_init 8 252 h.1.length (6 : Int32) (40 : Int32) h_2) fun _ h_3 =>
    gz_ck (gz_sh h_3 a0 8 19) <|
    gz_lt (uR h_3 a0 0 (some h.1.length)) fun h_7 =>
    gz_ck (gz_dc (h_7.1.length < 999999 ∧ (h_7.1.length + 1 ≤ l0 + mc ∧ gz_ss h_7.1 + 3 ≤ s0 + ms))) <|
    gz_lt (gz_al h_7 (7, 3)) fun h_9 =>
    gz_ck (gz_dc (h_9.1.length + 6 ≤ l0 + mc ∧ gz_ss h_9.1 + 328 ≤ s0 + ms)) <|
    gz_b2 (fX7_init 6 328 h_7.1.length (4 : Int32) (80 : Int32) h_9) fun _ h_10 =>
    gz_ck (gz_sh h_10 a0 8 19) <|
    gz_lt (uR h_10 a0 1 (some h_7.1.length)) fun h_14 =>
    gz_ck (gz_dc (h_14.1.length < 999999 ∧ (h_14.1.length + 1 ≤ l0 + mc ∧ gz_ss h_14.1 + 4 ≤ s0 + ms))) <|
    gz_lt (gz_al h_14 (5, 4)) fun h_16 =>
    gz_ck (gz_dc (h_16.1.length + 0 ≤ l0 + mc ∧ gz_ss h_16.1 + 0 ≤ s0 + ms)) <|
    gz_b2 (fX5_init 0 0 h_14.1.length h_16) fun _ h_17 =>
    gz_ck (gz_sh h_17 a0 8 19) <|
    gz_lt (uR h_17 a0 2 (some h_14.1.length)) fun h_21 =>
    gz_ck (gz_dc (h_21.1.length < 999999 ∧ (h_21.1.length + 1 ≤ l0 + mc ∧ gz_ss h_21.1 + 2 ≤ s0 + ms))) <|
    gz_lt (gz_al h_21 (0, 2)) fun h_23 =>
    gz_ck (gz_dc (h_23.1.length + 1 ≤ l0 + mc ∧ gz_ss h_23.1 + 6 ≤ s0 + ms)) <|
    gz_b2 (fX0_init 1 6 h_21.1.length h_23) fun _ h_24 =>
    gz_ck (gz_sh h_24 a0 8 19) <|
    gz_lt (uR h_24 a0 3 (some h_21.1.length)) fun h_28 =>
    gz_ck (gz_dc (h_28.1.length < 999999 ∧ (h_28.1.length + 1 ≤ l0 + mc ∧ gz_ss h_28.1 + 2 ≤ s0 + ms))) <|
    gz_lt (gz_al h_28 (4, 2)) fun h_30 =>
    gz_ck (gz_dc (h_30.1.length + 0 ≤ l0 + mc ∧ gz_ss h_30.1 + 0 ≤ s0 + ms)) <|
    gz_b2 (fX4_init 0 0 h_28.1.length h_30) fun _ h_31 =>
    gz_ck (gz_sh h_31 a0 8 19) <|
    gz_lt (uR h_31 a0 4 (some h_28.1.length)) fun h_35 =>
    gz_ck (gz_dc (h_35.1.length < 999999 ∧ (h_35.1.length + 1 ≤ l0 + mc ∧ gz_ss h_35.1 + 2 ≤ s0 + ms))) <|
    gz_lt (gz_al h_35 (6, 2)) fun h_37 =>
    gz_ck (gz_dc (h_37.1.length + 1 ≤ l0 + mc ∧ gz_ss h_37.1 + 6 ≤ s0 + ms)) <|
    gz_b2 (fX6_init 1 6 h_35.1.length h_37) fun _ h_38 =>
    gz_ck (gz_sh h_38 a0 8 19) <|
    gz_lt (uR h_38 a0 5 (some h_35.1.length)) fun h_42 =>
    gz_ck (gz_dc (h_42.1.length < 999999 ∧ (h_42.1.length + 1 ≤ l0 + mc ∧ gz_ss h_42.1 + 6 ≤ s0 + ms))) <|
    gz_lt (gz_al h_42 (2, 6)) fun h_44 =>
    gz_ck (gz_dc (h_44.1.length + 1 ≤ l0 + mc ∧ gz_ss h_44.1 + 8 ≤ s0 + ms)) <|
    gz_b2 (fX2_init 1 8 h_42.1.length h_44) fun _ h_45 =>
    gz_ck (gz_sh h_45 a0 8 19) <|
    gz_lt (uR h_45 a0 6 (some h_42.1.length)) fun h_49 =>
    gz_ck (gz_dc (h_49.1.length < 999999 ∧ (h_49.1.length + 1 ≤ l0 + mc ∧ gz_ss h_49.1 + 2 ≤ s0 + ms))) <|
    gz_lt (gz_al h_49 (3, 2)) fun h_51 =>
    gz_ck (gz_dc (h_51.1.length + 1 ≤ l0 + mc ∧ gz_ss h_51.1 + 40 ≤ s0 + ms)) <|
    gz_b2 (fX3_init 1 40 h_49.1.length h_51) fun _ h_52 =>
    gz_ck (gz_sh h_52 a0 8 19) <|
    gz_lt (uR h_52 a0 7 (some h_49.1.length)) fun h_56 =>
    gz_ck (gz_dc (¬ (3 : Int32) < 0 ∧ h_56.1.length < 999999 ∧ (3 : Int32).toNatClampNeg ≤ 100000 ∧ (h_56.1.length + 1 ≤ l0 + mc ∧ gz_ss h_56.1 + (3 : Int32).toNatClampNeg ≤ s0 + ms))) <|
    gz_lt (gz_al h_56 (12, (3 : Int32).toNatClampNeg)) fun h_58 =>
    gz_ck (gz_sh h_58 a0 8 19) <|
    gz_lt (uR h_58 a0 8 (some h_56.1.length)) fun h_60 =>
    gz_ck (gz_dc (h_60.1.length < 999999 ∧ (h_60.1.length + 1 ≤ l0 + mc ∧ gz_ss h_60.1 + 4 ≤ s0 + ms))) <|
    gz_lt (gz_al h_60 (1, 4)) fun h_62 =>
    gz_ck (gz_dc (h_62.1.length + 14 ≤ l0 + mc ∧ gz_ss h_62.1 + 98 ≤ s0 + ms)) <|
    gz_b2 (fX1_init 14 98 h_60.1.length h_62) fun _ h_63 =>
    gz_ck (gz_sh h_63 a0 8 19) <|
    gz_lt (uR h_63 a0 9 (some h_60.1.length)) fun h_67 =>
    gz_ck (gz_dc (h_67.1.length < 999999 ∧ (h_67.1.length + 1 ≤ l0 + mc ∧ gz_ss h_67.1 + 4 ≤ s0 + ms))) <|
    gz_lt (gz_al h_67 (1, 4)) fun h_69 =>
    gz_ck (gz_dc (h_69.1.length + 14 ≤ l0 + mc ∧ gz_ss h_69.1 + 98 ≤ s0 + ms)) <|
    gz_b2 (fX1_init 14 98 h_67.1.length h_69) fun _ h_70 =>
    gz_ck (gz_sh h_70 a0 8 19) <|
    gz_lt (uR h_70 a0 10 (some h_67.1.length)) fun h_74 =>
    gz_ck (gz_dc (h_74.1.length < 999999 ∧ (h_74.1.length + 1 ≤ l0 + mc ∧ gz_ss h_74.1 + 4 ≤ s0 + ms))) <|
    gz_lt (gz_al h_74 (1, 4)) fun h_76 =>
    gz_ck (gz_dc (h_76.1.length + 14 ≤ l0 + mc ∧ gz_ss h_76.1 + 98 ≤ s0 + ms)) <|
    gz_b2 (fX1_init 14 98 h_74.1.length h_76) fun _ h_77 =>
    gz_ck (gz_sh h_77 a0 8 19) <|
    gz_lt (uR h_77 a0 11 (some h_74.1.length)) fun h_81 =>
    gz_ck (gz_dc (¬ (6 : Int32) < 0 ∧ h_81.1.length < 999999 ∧ (6 : Int32).toNatClampNeg ≤ 100000 ∧ (h_81.1.length + 1 ≤ l0 + mc ∧ gz_ss h_81.1 + (6 : Int32).toNatClampNeg ≤ s0 + ms))) <|
    gz_lt (gz_al h_81 (10, (6 : Int32).toNatClampNeg)) fun h_83 =>
    gz_ck (gz_sh h_83 a0 8 19) <|
    gz_lt (uR h_83 a0 12 (some h_81.1.length)) fun h_85 =>
    gz_ck (gz_dc (¬ (6 : Int32) < 0 ∧ h_85.1.length < 999999 ∧ (6 : Int32).toNatClampNeg ≤ 100000 ∧ (h_85.1.length + 1 ≤ l0 + mc ∧ gz_ss h_85.1 + (6 : Int32).toNatClampNeg ≤ s0 + ms))) <|
    gz_lt (gz_al h_85 (10, (6 : Int32).toNatClampNeg)) fun h_87 =>
    gz_ck (gz_sh h_87 a0 8 19) <|
    gz_lt (uR h_87 a0 13 (some h_85.1.length)) fun h_89 =>
    gz_ck (gz_dc (¬ (36 : Int32) < 0 ∧ h_89.1.length < 999999 ∧ (36 : Int32).toNatClampNeg ≤ 100000 ∧ (h_89.1.length + 1 ≤ l0 + mc ∧ gz_ss h_89.1 + (36 : Int32).toNatClampNeg ≤ s0 + ms))) <|
    gz_lt (gz_al h_89 (10, (36 : Int32).toNatClampNeg)) fun h_91 =>
    gz_ck (gz_sh h_91 a0 8 19) <|
    gz_lt (uR h_91 a0 14 (some h_89.1.length)) fun h_93 =>
    gz_ck (gz_dc (¬ (256 : Int32) < 0 ∧ h_93.1.length < 999999 ∧ (256 : Int32).toNatClampNeg ≤ 100000 ∧ (h_93.1.length + 1 ≤ l0 + mc ∧ gz_ss h_93.1 + (256 : Int32).toNatClampNeg ≤ s0 + ms))) <|
    gz_lt (gz_al h_93 (10, (256 : Int32).toNatClampNeg)) fun h_95 =>
    gz_ck (gz_sh h_95 a0 8 19) <|
    gz_lt (uR h_95 a0 15 (some h_93.1.length)) fun h_97 =>
    gz_ck (gz_dc (¬ (8 : Int32) < 0 ∧ h_97.1.length < 999999 ∧ (8 : Int32).toNatClampNeg ≤ 100000 ∧ (h_97.1.length + 1 ≤ l0 + mc ∧ gz_ss h_97.1 + (8 : Int32).toNatClampNeg ≤ s0 + ms))) <|
    gz_lt (gz_al h_97 (10, (8 : Int32).toNatClampNeg)) fun h_99 =>
    gz_ck (gz_sh h_99 a0 8 19) <|
    gz_lt (uR h_99 a0 16 (some h_97.1.length)) fun h_101 =>
    gz_ck (gz_dc (¬ (8 : Int32) < 0 ∧ h_101.1.length < 999999 ∧ (8 : Int32).toNatClampNeg ≤ 100000 ∧ (h_101.1.length + 1 ≤ l0 + mc ∧ gz_ss h_101.1 + (8 : Int32).toNatClampNeg ≤ s0 + ms))) <|
    gz_lt (gz_al h_101 (10, (8 : Int32).toNatClampNeg)) fun h_103 =>
    gz_ck (gz_sh h_103 a0 8 19) <|
    gz_lt (uR h_103 a0 17 (some h_101.1.length)) fun h_105 =>
    fX8_init_191 l0 s0 mc ms gz_fu a0 (0 : Int32) h_105
set_option maxRecDepth 100000 in
set_option maxHeartbeats 4000000 in
theorem sX8_init_0 {G : gz_G} {d l0 s0 mc ms : Nat} {Q : Unit → gz_H → Prop} (a0 : Nat) (h : gz_H) (hf : gz_g (fX8_init_0 l0 s0 mc ms a0 h) Q) : gz_Ok G mX8_init (d + 3, l0, s0, mc, ms) 0 [.ref a0, .retAddr 0] [] h (gz_qu Q) := by
  unfold fX8_init_0 at hf
  refine gz_aload_n (pc := 0) dX8_init_0 rfl rfl ?_
  refine gz_obj (pc := 1) dX8_init_1 kob_RX8_1 (by show 1 ≤ d + 3; omega) (Nat.le_of_ble_eq_true rfl) ?_
  refine gz_aload_n (pc := 4) dX8_init_4 rfl rfl ?_
  refine gz_gk hf (fun c_1 hf => ?_)
  refine gz_new (pc := 5) dX8_init_5 kn_RX8_7 (gz_dcs c_1).1 (gz_dcs c_1).2 ?_
  refine gz_nmH (fun h_2 eh_2 => ?_)
  have hf := gz_gl eh_2 hf
  refine gz_dup (pc := 8) dX8_init_8 rfl ?_
  refine gz_bipush (v := (6 : Int32)) (pc := 9) dX8_init_9 rfl ?_
  refine gz_bipush (v := (40 : Int32)) (pc := 11) dX8_init_11 rfl ?_
  refine gz_gk hf (fun c_5 hf => ?_)
  refine gz_cIV (av := [.int (6 : Int32), .int (40 : Int32)]) (st := [.ref h.1.length, .ref a0]) (pc := 13) dX8_init_13 kl_RX8_11 rfl rfl (Nat.le_of_ble_eq_true rfl) (by show d + 1 + 1 + 1 ≤ d + 3; omega) (gz_dcs c_5) (sX7_init (d := d + 1) (mc := 8) (ms := 252) (gz_gc hf)) (fun _ h_3 hf => ?_)
  refine gz_gk hf (fun c_6 hf => ?_)
  refine gz_putR (pc := 16) dX8_init_16 fw_X8_init_14 rfl (gz_shs c_6) ?_
  refine gz_nmH (fun h_7 eh_7 => ?_)
  have hf := gz_gl eh_7 hf
  refine gz_aload_n (pc := 19) dX8_init_19 rfl rfl ?_
  refine gz_gk hf (fun c_8 hf => ?_)
  refine gz_new (pc := 20) dX8_init_20 kn_RX8_7 (gz_dcs c_8).1 (gz_dcs c_8).2 ?_
  refine gz_nmH (fun h_9 eh_9 => ?_)
  have hf := gz_gl eh_9 hf
  refine gz_dup (pc := 23) dX8_init_23 rfl ?_
  refine gz_iconst (v := (4 : Int32)) (pc := 24) dX8_init_24 rfl ?_
  refine gz_bipush (v := (80 : Int32)) (pc := 25) dX8_init_25 rfl ?_
  refine gz_gk hf (fun c_12 hf => ?_)
  refine gz_cIV (av := [.int (4 : Int32), .int (80 : Int32)]) (st := [.ref h_7.1.length, .ref a0]) (pc := 27) dX8_init_27 kl_RX8_11 rfl rfl (Nat.le_of_ble_eq_true rfl) (by show d + 1 + 1 + 1 ≤ d + 3; omega) (gz_dcs c_12) (sX7_init (d := d + 1) (mc := 6) (ms := 328) (gz_gc hf)) (fun _ h_10 hf => ?_)
  refine gz_gk hf (fun c_13 hf => ?_)
  refine gz_putR (pc := 30) dX8_init_30 fw_X8_init_18 rfl (gz_shs c_13) ?_
  refine gz_nmH (fun h_14 eh_14 => ?_)
  have hf := gz_gl eh_14 hf
  refine gz_aload_n (pc := 33) dX8_init_33 rfl rfl ?_
  refine gz_gk hf (fun c_15 hf => ?_)
  refine gz_new (pc := 34) dX8_init_34 kn_RX8_21 (gz_dcs c_15).1 (gz_dcs c_15).2 ?_
  refine gz_nmH (fun h_16 eh_16 => ?_)
  have hf := gz_gl eh_16 hf
  refine gz_dup (pc := 37) dX8_init_37 rfl ?_
  refine gz_gk hf (fun c_19 hf => ?_)
  refine gz_cIV (av := []) (st := [.ref h_14.1.length, .ref a0]) (pc := 38) dX8_init_38 kl_RX8_23 rfl rfl (Nat.le_of_ble_eq_true rfl) (by show d + 1 + 1 + 1 ≤ d + 3; omega) (gz_dcs c_19) (sX5_init (d := d + 1) (mc := 0) (ms := 0) (gz_gc hf)) (fun _ h_17 hf => ?_)
  refine gz_gk hf (fun c_20 hf => ?_)
  refine gz_putR (pc := 41) dX8_init_41 fw_X8_init_24 rfl (gz_shs c_20) ?_
  refine gz_nmH (fun h_21 eh_21 => ?_)
  have hf := gz_gl eh_21 hf
  refine gz_aload_n (pc := 44) dX8_init_44 rfl rfl ?_
  refine gz_gk hf (fun c_22 hf => ?_)
  refine gz_new (pc := 45) dX8_init_45 kn_RX8_28 (gz_dcs c_22).1 (gz_dcs c_22).2 ?_
  refine gz_nmH (fun h_23 eh_23 => ?_)
  have hf := gz_gl eh_23 hf
  refine gz_dup (pc := 48) dX8_init_48 rfl ?_
  refine gz_gk hf (fun c_26 hf => ?_)
  refine gz_cIV (av := []) (st := [.ref h_21.1.length, .ref a0]) (pc := 49) dX8_init_49 kl_RX8_30 rfl rfl (Nat.le_of_ble_eq_true rfl) (by show d + 1 + 1 + 1 ≤ d + 3; omega) (gz_dcs c_26) (sX0_init (d := d + 1) (mc := 1) (ms := 6) (gz_gc hf)) (fun _ h_24 hf => ?_)
  refine gz_gk hf (fun c_27 hf => ?_)
  refine gz_putR (pc := 52) dX8_init_52 fw_X8_init_31 rfl (gz_shs c_27) ?_
  refine gz_nmH (fun h_28 eh_28 => ?_)
  have hf := gz_gl eh_28 hf
  refine gz_aload_n (pc := 55) dX8_init_55 rfl rfl ?_
  refine gz_gk hf (fun c_29 hf => ?_)
  refine gz_new (pc := 56) dX8_init_56 kn_RX8_35 (gz_dcs c_29).1 (gz_dcs c_29).2 ?_
  refine gz_nmH (fun h_30 eh_30 => ?_)
  have hf := gz_gl eh_30 hf
  refine gz_dup (pc := 59) dX8_init_59 rfl ?_
  refine gz_gk hf (fun c_33 hf => ?_)
  refine gz_cIV (av := []) (st := [.ref h_28.1.length, .ref a0]) (pc := 60) dX8_init_60 kl_RX8_37 rfl rfl (Nat.le_of_ble_eq_true rfl) (by show d + 1 + 1 + 1 ≤ d + 3; omega) (gz_dcs c_33) (sX4_init (d := d + 1) (mc := 0) (ms := 0) (gz_gc hf)) (fun _ h_31 hf => ?_)
  refine gz_gk hf (fun c_34 hf => ?_)
  refine gz_putR (pc := 63) dX8_init_63 fw_X8_init_38 rfl (gz_shs c_34) ?_
  refine gz_nmH (fun h_35 eh_35 => ?_)
  have hf := gz_gl eh_35 hf
  refine gz_aload_n (pc := 66) dX8_init_66 rfl rfl ?_
  refine gz_gk hf (fun c_36 hf => ?_)
  refine gz_new (pc := 67) dX8_init_67 kn_RX8_42 (gz_dcs c_36).1 (gz_dcs c_36).2 ?_
  refine gz_nmH (fun h_37 eh_37 => ?_)
  have hf := gz_gl eh_37 hf
  refine gz_dup (pc := 70) dX8_init_70 rfl ?_
  refine gz_gk hf (fun c_40 hf => ?_)
  refine gz_cIV (av := []) (st := [.ref h_35.1.length, .ref a0]) (pc := 71) dX8_init_71 kl_RX8_44 rfl rfl (Nat.le_of_ble_eq_true rfl) (by show d + 1 + 1 + 1 ≤ d + 3; omega) (gz_dcs c_40) (sX6_init (d := d + 1) (mc := 1) (ms := 6) (gz_gc hf)) (fun _ h_38 hf => ?_)
  refine gz_gk hf (fun c_41 hf => ?_)
  refine gz_putR (pc := 74) dX8_init_74 fw_X8_init_45 rfl (gz_shs c_41) ?_
  refine gz_nmH (fun h_42 eh_42 => ?_)
  have hf := gz_gl eh_42 hf
  refine gz_aload_n (pc := 77) dX8_init_77 rfl rfl ?_
  refine gz_gk hf (fun c_43 hf => ?_)
  refine gz_new (pc := 78) dX8_init_78 kn_RX8_49 (gz_dcs c_43).1 (gz_dcs c_43).2 ?_
  refine gz_nmH (fun h_44 eh_44 => ?_)
  have hf := gz_gl eh_44 hf
  refine gz_dup (pc := 81) dX8_init_81 rfl ?_
  refine gz_gk hf (fun c_47 hf => ?_)
  refine gz_cIV (av := []) (st := [.ref h_42.1.length, .ref a0]) (pc := 82) dX8_init_82 kl_RX8_51 rfl rfl (Nat.le_of_ble_eq_true rfl) (by show d + 1 + 1 + 1 ≤ d + 3; omega) (gz_dcs c_47) (sX2_init (d := d + 1) (mc := 1) (ms := 8) (gz_gc hf)) (fun _ h_45 hf => ?_)
  refine gz_gk hf (fun c_48 hf => ?_)
  refine gz_putR (pc := 85) dX8_init_85 fw_X8_init_52 rfl (gz_shs c_48) ?_
  refine gz_nmH (fun h_49 eh_49 => ?_)
  have hf := gz_gl eh_49 hf
  refine gz_aload_n (pc := 88) dX8_init_88 rfl rfl ?_
  refine gz_gk hf (fun c_50 hf => ?_)
  refine gz_new (pc := 89) dX8_init_89 kn_RX8_56 (gz_dcs c_50).1 (gz_dcs c_50).2 ?_
  refine gz_nmH (fun h_51 eh_51 => ?_)
  have hf := gz_gl eh_51 hf
  refine gz_dup (pc := 92) dX8_init_92 rfl ?_
  refine gz_gk hf (fun c_54 hf => ?_)
  refine gz_cIV (av := []) (st := [.ref h_49.1.length, .ref a0]) (pc := 93) dX8_init_93 kl_RX8_58 rfl rfl (Nat.le_of_ble_eq_true rfl) (by show d + 1 + 1 + 1 ≤ d + 3; omega) (gz_dcs c_54) (sX3_init (d := d + 1) (mc := 1) (ms := 40) (gz_gc hf)) (fun _ h_52 hf => ?_)
  refine gz_gk hf (fun c_55 hf => ?_)
  refine gz_putR (pc := 96) dX8_init_96 fw_X8_init_59 rfl (gz_shs c_55) ?_
  refine gz_nmH (fun h_56 eh_56 => ?_)
  have hf := gz_gl eh_56 hf
  refine gz_aload_n (pc := 99) dX8_init_99 rfl rfl ?_
  refine gz_iconst (v := (3 : Int32)) (pc := 100) dX8_init_100 rfl ?_
  refine gz_gk hf (fun c_57 hf => ?_)
  refine gz_newq (Or.inr ⟨rfl, rfl⟩) (pc := 101) dX8_init_101 kcl_RX8_56 (gz_dcs c_57).1 (gz_dcs c_57).2.1 (gz_dcs c_57).2.2.1 (gz_dcs c_57).2.2.2 ?_
  refine gz_nmH (fun h_58 eh_58 => ?_)
  have hf := gz_gl eh_58 hf
  refine gz_gk hf (fun c_59 hf => ?_)
  refine gz_putR (pc := 104) dX8_init_104 fw_X8_init_63 rfl (gz_shs c_59) ?_
  refine gz_nmH (fun h_60 eh_60 => ?_)
  have hf := gz_gl eh_60 hf
  refine gz_aload_n (pc := 107) dX8_init_107 rfl rfl ?_
  refine gz_gk hf (fun c_61 hf => ?_)
  refine gz_new (pc := 108) dX8_init_108 kn_RX8_67 (gz_dcs c_61).1 (gz_dcs c_61).2 ?_
  refine gz_nmH (fun h_62 eh_62 => ?_)
  have hf := gz_gl eh_62 hf
  refine gz_dup (pc := 111) dX8_init_111 rfl ?_
  refine gz_gk hf (fun c_65 hf => ?_)
  refine gz_cIV (av := []) (st := [.ref h_60.1.length, .ref a0]) (pc := 112) dX8_init_112 kl_RX8_69 rfl rfl (Nat.le_of_ble_eq_true rfl) (by show d + 0 + 2 + 1 ≤ d + 3; omega) (gz_dcs c_65) (sX1_init (d := d + 0) (mc := 14) (ms := 98) (gz_gc hf)) (fun _ h_63 hf => ?_)
  refine gz_gk hf (fun c_66 hf => ?_)
  refine gz_putR (pc := 115) dX8_init_115 fw_X8_init_70 rfl (gz_shs c_66) ?_
  refine gz_nmH (fun h_67 eh_67 => ?_)
  have hf := gz_gl eh_67 hf
  refine gz_aload_n (pc := 118) dX8_init_118 rfl rfl ?_
  refine gz_gk hf (fun c_68 hf => ?_)
  refine gz_new (pc := 119) dX8_init_119 kn_RX8_67 (gz_dcs c_68).1 (gz_dcs c_68).2 ?_
  refine gz_nmH (fun h_69 eh_69 => ?_)
  have hf := gz_gl eh_69 hf
  refine gz_dup (pc := 122) dX8_init_122 rfl ?_
  refine gz_gk hf (fun c_72 hf => ?_)
  refine gz_cIV (av := []) (st := [.ref h_67.1.length, .ref a0]) (pc := 123) dX8_init_123 kl_RX8_69 rfl rfl (Nat.le_of_ble_eq_true rfl) (by show d + 0 + 2 + 1 ≤ d + 3; omega) (gz_dcs c_72) (sX1_init (d := d + 0) (mc := 14) (ms := 98) (gz_gc hf)) (fun _ h_70 hf => ?_)
  refine gz_gk hf (fun c_73 hf => ?_)
  refine gz_putR (pc := 126) dX8_init_126 fw_X8_init_74 rfl (gz_shs c_73) ?_
  refine gz_nmH (fun h_74 eh_74 => ?_)
  have hf := gz_gl eh_74 hf
  refine gz_aload_n (pc := 129) dX8_init_129 rfl rfl ?_
  refine gz_gk hf (fun c_75 hf => ?_)
  refine gz_new (pc := 130) dX8_init_130 kn_RX8_67 (gz_dcs c_75).1 (gz_dcs c_75).2 ?_
  refine gz_nmH (fun h_76 eh_76 => ?_)
  have hf := gz_gl eh_76 hf
  refine gz_dup (pc := 133) dX8_init_133 rfl ?_
  refine gz_gk hf (fun c_79 hf => ?_)
  refine gz_cIV (av := []) (st := [.ref h_74.1.length, .ref a0]) (pc := 134) dX8_init_134 kl_RX8_69 rfl rfl (Nat.le_of_ble_eq_true rfl) (by show d + 0 + 2 + 1 ≤ d + 3; omega) (gz_dcs c_79) (sX1_init (d := d + 0) (mc := 14) (ms := 98) (gz_gc hf)) (fun _ h_77 hf => ?_)
  refine gz_gk hf (fun c_80 hf => ?_)
  refine gz_putR (pc := 137) dX8_init_137 fw_X8_init_77 rfl (gz_shs c_80) ?_
  refine gz_nmH (fun h_81 eh_81 => ?_)
  have hf := gz_gl eh_81 hf
  refine gz_aload_n (pc := 140) dX8_init_140 rfl rfl ?_
  refine gz_bipush (v := (6 : Int32)) (pc := 141) dX8_init_141 rfl ?_
  refine gz_gk hf (fun c_82 hf => ?_)
  refine gz_newi (pc := 143) dX8_init_143 kw_int (gz_dcs c_82).1 (gz_dcs c_82).2.1 (gz_dcs c_82).2.2.1 (gz_dcs c_82).2.2.2 ?_
  refine gz_nmH (fun h_83 eh_83 => ?_)
  have hf := gz_gl eh_83 hf
  refine gz_gk hf (fun c_84 hf => ?_)
  refine gz_putR (pc := 145) dX8_init_145 fw_X8_init_80 rfl (gz_shs c_84) ?_
  refine gz_nmH (fun h_85 eh_85 => ?_)
  have hf := gz_gl eh_85 hf
  refine gz_aload_n (pc := 148) dX8_init_148 rfl rfl ?_
  refine gz_bipush (v := (6 : Int32)) (pc := 149) dX8_init_149 rfl ?_
  refine gz_gk hf (fun c_86 hf => ?_)
  refine gz_newi (pc := 151) dX8_init_151 kw_int (gz_dcs c_86).1 (gz_dcs c_86).2.1 (gz_dcs c_86).2.2.1 (gz_dcs c_86).2.2.2 ?_
  refine gz_nmH (fun h_87 eh_87 => ?_)
  have hf := gz_gl eh_87 hf
  refine gz_gk hf (fun c_88 hf => ?_)
  refine gz_putR (pc := 153) dX8_init_153 fw_X8_init_84 rfl (gz_shs c_88) ?_
  refine gz_nmH (fun h_89 eh_89 => ?_)
  have hf := gz_gl eh_89 hf
  refine gz_aload_n (pc := 156) dX8_init_156 rfl rfl ?_
  refine gz_bipush (v := (36 : Int32)) (pc := 157) dX8_init_157 rfl ?_
  refine gz_gk hf (fun c_90 hf => ?_)
  refine gz_newi (pc := 159) dX8_init_159 kw_int (gz_dcs c_90).1 (gz_dcs c_90).2.1 (gz_dcs c_90).2.2.1 (gz_dcs c_90).2.2.2 ?_
  refine gz_nmH (fun h_91 eh_91 => ?_)
  have hf := gz_gl eh_91 hf
  refine gz_gk hf (fun c_92 hf => ?_)
  refine gz_putR (pc := 161) dX8_init_161 fw_X8_init_87 rfl (gz_shs c_92) ?_
  refine gz_nmH (fun h_93 eh_93 => ?_)
  have hf := gz_gl eh_93 hf
  refine gz_aload_n (pc := 164) dX8_init_164 rfl rfl ?_
  refine gz_sipush (v := (256 : Int32)) (pc := 165) dX8_init_165 rfl ?_
  refine gz_gk hf (fun c_94 hf => ?_)
  refine gz_newi (pc := 168) dX8_init_168 kw_int (gz_dcs c_94).1 (gz_dcs c_94).2.1 (gz_dcs c_94).2.2.1 (gz_dcs c_94).2.2.2 ?_
  refine gz_nmH (fun h_95 eh_95 => ?_)
  have hf := gz_gl eh_95 hf
  refine gz_gk hf (fun c_96 hf => ?_)
  refine gz_putR (pc := 170) dX8_init_170 fw_X8_init_90 rfl (gz_shs c_96) ?_
  refine gz_nmH (fun h_97 eh_97 => ?_)
  have hf := gz_gl eh_97 hf
  refine gz_aload_n (pc := 173) dX8_init_173 rfl rfl ?_
  refine gz_bipush (v := (8 : Int32)) (pc := 174) dX8_init_174 rfl ?_
  refine gz_gk hf (fun c_98 hf => ?_)
  refine gz_newi (pc := 176) dX8_init_176 kw_int (gz_dcs c_98).1 (gz_dcs c_98).2.1 (gz_dcs c_98).2.2.1 (gz_dcs c_98).2.2.2 ?_
  refine gz_nmH (fun h_99 eh_99 => ?_)
  have hf := gz_gl eh_99 hf
  refine gz_gk hf (fun c_100 hf => ?_)
  refine gz_putR (pc := 178) dX8_init_178 fw_X8_init_93 rfl (gz_shs c_100) ?_
  refine gz_nmH (fun h_101 eh_101 => ?_)
  have hf := gz_gl eh_101 hf
  refine gz_aload_n (pc := 181) dX8_init_181 rfl rfl ?_
  refine gz_bipush (v := (8 : Int32)) (pc := 182) dX8_init_182 rfl ?_
  refine gz_gk hf (fun c_102 hf => ?_)
  refine gz_newi (pc := 184) dX8_init_184 kw_int (gz_dcs c_102).1 (gz_dcs c_102).2.1 (gz_dcs c_102).2.2.1 (gz_dcs c_102).2.2.2 ?_
  refine gz_nmH (fun h_103 eh_103 => ?_)
  have hf := gz_gl eh_103 hf
  refine gz_gk hf (fun c_104 hf => ?_)
  refine gz_putR (pc := 186) dX8_init_186 fw_X8_init_96 rfl (gz_shs c_104) ?_
  refine gz_nmH (fun h_105 eh_105 => ?_)
  have hf := gz_gl eh_105 hf
  refine gz_iconst (v := (0 : Int32)) (pc := 189) dX8_init_189 rfl ?_
  refine gz_istore_n (lv := [.ref a0, .int (0 : Int32)]) (pc := 190) dX8_init_190 rfl (by decide) rfl ?_
  exact sX8_init_191 gz_fu a0 (0 : Int32) h_105 hf
def fX8_init (mc ms : Nat) (a0 : Nat) (h : gz_H) : Option (Unit × gz_H) := fX8_init_0 h.1.length (gz_ss h.1) mc ms a0 h
theorem sX8_init {G : gz_G} {d mc ms : Nat} {a0 : Nat} {h : gz_H} {Q : Unit → gz_H → Prop} (hf : gz_g (fX8_init mc ms a0 h) Q) : gz_Cl G mX8_init (d + 3) mc ms [.ref a0] h (gz_qu Q) := gz_cl_of (lo := [.ref a0, .retAddr 0]) (by decide) rfl rfl (Nat.le_of_ble_eq_true rfl) (sX8_init_0 a0 h hf)
theorem dX8_layOut_0 : decode cX8_layOut 0 = .ok (.aload_n 1, 1) := by decide +kernel
theorem dX8_layOut_1 : decode cX8_layOut 1 = .ok (.iload_n 2, 1) := by decide +kernel
theorem dX8_layOut_2 : decode cX8_layOut 2 = .ok (.invokevirtual 118, 3) := by decide +kernel
theorem dX8_layOut_5 : decode cX8_layOut 5 = .ok (.ifCond .eq 11, 3) := by decide +kernel
theorem dX8_layOut_8 : decode cX8_layOut 8 = .ok (.iload_n 3, 1) := by decide +kernel
theorem dX8_layOut_9 : decode cX8_layOut 9 = .ok (.aload_n 1, 1) := by decide +kernel
theorem dX8_layOut_10 : decode cX8_layOut 10 = .ok (.getfield 330, 3) := by decide +kernel
theorem dX8_layOut_13 : decode cX8_layOut 13 = .ok (.if_icmp .le 5, 3) := by decide +kernel
theorem dX8_layOut_16 : decode cX8_layOut 16 = .ok (.iconst (-1), 1) := by decide +kernel
theorem dX8_layOut_17 : decode cX8_layOut 17 = .ok (.ireturn, 1) := by decide +kernel
theorem dX8_layOut_18 : decode cX8_layOut 18 = .ok (.iload_n 3, 1) := by decide +kernel
theorem dX8_layOut_19 : decode cX8_layOut 19 = .ok (.ifCond .ge 12, 3) := by decide +kernel
theorem dX8_layOut_22 : decode cX8_layOut 22 = .ok (.aload_n 0, 1) := by decide +kernel
theorem dX8_layOut_23 : decode cX8_layOut 23 = .ok (.getfield 31, 3) := by decide +kernel
theorem dX8_layOut_26 : decode cX8_layOut 26 = .ok (.iconst 5, 1) := by decide +kernel
theorem dX8_layOut_27 : decode cX8_layOut 27 = .ok (.invokevirtual 125, 3) := by decide +kernel
theorem dX8_layOut_30 : decode cX8_layOut 30 = .ok (.ireturn, 1) := by decide +kernel
theorem dX8_layOut_31 : decode cX8_layOut 31 = .ok (.aload_n 1, 1) := by decide +kernel
theorem dX8_layOut_32 : decode cX8_layOut 32 = .ok (.iload_n 2, 1) := by decide +kernel
theorem dX8_layOut_33 : decode cX8_layOut 33 = .ok (.iload_n 3, 1) := by decide +kernel
theorem dX8_layOut_34 : decode cX8_layOut 34 = .ok (.iload 4, 2) := by decide +kernel
theorem dX8_layOut_36 : decode cX8_layOut 36 = .ok (.invokevirtual 231, 3) := by decide +kernel
theorem dX8_layOut_39 : decode cX8_layOut 39 = .ok (.iload_n 3, 1) := by decide +kernel
theorem dX8_layOut_40 : decode cX8_layOut 40 = .ok (.ireturn, 1) := by decide +kernel
def fX8_layOut_0  (a0 : Nat) (a1 : Nat) (x2 : Int32) (x3 : Int32) (x4 : Int32) (h : gz_H) : Option (Int32 × gz_H) :=
    gz_ck (gz_sh h a1 7 3) <|
    gz_b2 (fX7_knows a1 x2 h) fun y_2 h_1 =>
    if y_2 = 0 then (
     some ((-1 : Int32), h_1)
    ) else (
     gz_ck (gz_sh h_1 a1 7 3) <|
     if x3 ≤ (h_1.2.1 a1 0) then (
      if 0 ≤ x3 then (
       gz_b2 (fX7_make a1 x2 x3 x4 h_1) fun _ h_8 =>
       some (x3, h_8)
      ) else (
       gz_ck (gz_sh h_1 a0 8 19) <|
       gz_br (h_1.2.2.2 a0 3) fun r_11 =>
       gz_ck (gz_sh h_1 r_11 0 2) <|
       gz_b2 (fX0_answer r_11 (5 : Int32) h_1) fun y_13 h_12 =>
       some (y_13, h_12)
      )
     ) else (
      some ((-1 : Int32), h_1)
     )
    )
set_option maxRecDepth 100000 in
set_option maxHeartbeats 1000000 in
theorem sX8_layOut_0 {G : gz_G} {d l0 s0 : Nat} {Q : Int32 → gz_H → Prop} (a0 : Nat) (a1 : Nat) (x2 : Int32) (x3 : Int32) (x4 : Int32) (h : gz_H) (hf : gz_g (fX8_layOut_0  a0 a1 x2 x3 x4 h) Q) : gz_Ok G mX8_layOut (d + 2, l0, s0, 0, 0) 0 [.ref a0, .ref a1, .int x2, .int x3, .int x4] [] h (gz_qi Q) := by
  unfold fX8_layOut_0 at hf
  refine gz_aload_n (pc := 0) dX8_layOut_0 rfl rfl ?_
  refine gz_iload_n (pc := 1) dX8_layOut_1 rfl rfl ?_
  refine gz_gk hf (fun c_3 hf => ?_)
  refine gz_cVI (av := [.int x2]) (st := []) (pc := 2) dX8_layOut_2 kl_RX8_118 rfl (gz_shs c_3) rfl rfl (Nat.le_of_ble_eq_true rfl) (by show d + 1 + 0 + 1 ≤ d + 2; omega) (sX7_knows (d := d + 1) (gz_gc hf)) (fun y_2 h_1 hf => ?_)
  refine gz_if_eq (tgt := 16) (pc := 5) dX8_layOut_5 rfl (fun c_4 => ?_) (fun c_4 => ?_)
  · have hf := gz_gT hf c_4
    refine gz_iconst (v := (-1 : Int32)) (pc := 16) dX8_layOut_16 rfl ?_
    exact gz_irt (pc := 17) dX8_layOut_17 rfl rfl hf
  · have hf := gz_gF hf c_4
    refine gz_iload_n (pc := 8) dX8_layOut_8 rfl rfl ?_
    refine gz_aload_n (pc := 9) dX8_layOut_9 rfl rfl ?_
    refine gz_gk hf (fun c_5 hf => ?_)
    refine gz_getI (pc := 10) dX8_layOut_10 fl_RX8_330 rfl (gz_shs c_5) ?_
    refine gz_icmp_le (tgt := 18) (pc := 13) dX8_layOut_13 rfl (fun c_6 => ?_) (fun c_6 => ?_)
    · have hf := gz_gT hf c_6
      refine gz_iload_n (pc := 18) dX8_layOut_18 rfl rfl ?_
      refine gz_if_ge (tgt := 31) (pc := 19) dX8_layOut_19 rfl (fun c_7 => ?_) (fun c_7 => ?_)
      · have hf := gz_gT hf c_7
        refine gz_aload_n (pc := 31) dX8_layOut_31 rfl rfl ?_
        refine gz_iload_n (pc := 32) dX8_layOut_32 rfl rfl ?_
        refine gz_iload_n (pc := 33) dX8_layOut_33 rfl rfl ?_
        refine gz_iload (pc := 34) dX8_layOut_34 rfl ?_
        refine gz_cVV (av := [.int x2, .int x3, .int x4]) (st := []) (pc := 36) dX8_layOut_36 kl_RX8_231 rfl (gz_shs c_5) rfl rfl (Nat.le_of_ble_eq_true rfl) (by show d + 0 + 1 + 1 ≤ d + 2; omega) (sX7_make (d := d + 0) (gz_gc hf)) (fun _ h_8 hf => ?_)
        refine gz_iload_n (pc := 39) dX8_layOut_39 rfl rfl ?_
        exact gz_irt (pc := 40) dX8_layOut_40 rfl rfl hf
      · have hf := gz_gF hf c_7
        refine gz_aload_n (pc := 22) dX8_layOut_22 rfl rfl ?_
        refine gz_gk hf (fun c_10 hf => ?_)
        refine gz_gb hf (fun r_11 er_11 hf => ?_)
        refine gz_getR (pc := 23) dX8_layOut_23 fl_RX8_31 rfl (gz_shs c_10) er_11 ?_
        refine gz_iconst (v := (5 : Int32)) (pc := 26) dX8_layOut_26 rfl ?_
        refine gz_gk hf (fun c_14 hf => ?_)
        refine gz_cVI (av := [.int (5 : Int32)]) (st := []) (pc := 27) dX8_layOut_27 kl_RX8_125 rfl (gz_shs c_14) rfl rfl (Nat.le_of_ble_eq_true rfl) (by show d + 1 + 0 + 1 ≤ d + 2; omega) (sX0_answer (d := d + 1) (gz_gc hf)) (fun y_13 h_12 hf => ?_)
        exact gz_irt (pc := 30) dX8_layOut_30 rfl rfl hf
    · have hf := gz_gF hf c_6
      refine gz_iconst (v := (-1 : Int32)) (pc := 16) dX8_layOut_16 rfl ?_
      exact gz_irt (pc := 17) dX8_layOut_17 rfl rfl hf
def fX8_layOut (a0 : Nat) (a1 : Nat) (x2 : Int32) (x3 : Int32) (x4 : Int32) (h : gz_H) : Option (Int32 × gz_H) := fX8_layOut_0 a0 a1 x2 x3 x4 h
theorem sX8_layOut {G : gz_G} {d : Nat} {a0 : Nat} {a1 : Nat} {x2 : Int32} {x3 : Int32} {x4 : Int32} {h : gz_H} {Q : Int32 → gz_H → Prop} (hf : gz_g (fX8_layOut a0 a1 x2 x3 x4 h) Q) : gz_Cl G mX8_layOut (d + 2) 0 0 [.ref a0, .ref a1, .int x2, .int x3, .int x4] h (gz_qi Q) := gz_cl_of (lo := [.ref a0, .ref a1, .int x2, .int x3, .int x4]) (by decide) rfl rfl (Nat.le_of_ble_eq_true rfl) (sX8_layOut_0 a0 a1 x2 x3 x4 h hf)
