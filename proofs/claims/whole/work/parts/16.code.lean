theorem dX8_keep_0 : decode cX8_keep 0 = .ok (.iload_n 1, 1) := by decide +kernel
theorem dX8_keep_1 : decode cX8_keep 1 = .ok (.ifCond .lt 8, 3) := by decide +kernel
theorem dX8_keep_4 : decode cX8_keep 4 = .ok (.iload_n 1, 1) := by decide +kernel
theorem dX8_keep_5 : decode cX8_keep 5 = .ok (.iconst 3, 1) := by decide +kernel
theorem dX8_keep_6 : decode cX8_keep 6 = .ok (.if_icmp .lt 5, 3) := by decide +kernel
theorem dX8_keep_9 : decode cX8_keep 9 = .ok (.iconst (-1), 1) := by decide +kernel
theorem dX8_keep_10 : decode cX8_keep 10 = .ok (.ireturn, 1) := by decide +kernel
theorem dX8_keep_11 : decode cX8_keep 11 = .ok (.aload_n 0, 1) := by decide +kernel
theorem dX8_keep_12 : decode cX8_keep 12 = .ok (.getfield 70, 3) := by decide +kernel
theorem dX8_keep_15 : decode cX8_keep 15 = .ok (.invokevirtual 183, 3) := by decide +kernel
theorem dX8_keep_18 : decode cX8_keep 18 = .ok (.ifCond .ne 6, 3) := by decide +kernel
theorem dX8_keep_21 : decode cX8_keep 21 = .ok (.bipush (-4), 2) := by decide +kernel
theorem dX8_keep_23 : decode cX8_keep 23 = .ok (.ireturn, 1) := by decide +kernel
theorem dX8_keep_24 : decode cX8_keep 24 = .ok (.aload_n 0, 1) := by decide +kernel
theorem dX8_keep_25 : decode cX8_keep 25 = .ok (.getfield 63, 3) := by decide +kernel
theorem dX8_keep_28 : decode cX8_keep 28 = .ok (.iload_n 1, 1) := by decide +kernel
theorem dX8_keep_29 : decode cX8_keep 29 = .ok (.aaload, 1) := by decide +kernel
theorem dX8_keep_30 : decode cX8_keep 30 = .ok (.aload_n 0, 1) := by decide +kernel
theorem dX8_keep_31 : decode cX8_keep 31 = .ok (.getfield 59, 3) := by decide +kernel
theorem dX8_keep_34 : decode cX8_keep 34 = .ok (.invokevirtual 187, 3) := by decide +kernel
theorem dX8_keep_37 : decode cX8_keep 37 = .ok (.aload_n 0, 1) := by decide +kernel
theorem dX8_keep_38 : decode cX8_keep 38 = .ok (.getfield 59, 3) := by decide +kernel
theorem dX8_keep_41 : decode cX8_keep 41 = .ok (.getfield 99, 3) := by decide +kernel
theorem dX8_keep_44 : decode cX8_keep 44 = .ok (.ireturn, 1) := by decide +kernel
def fX8_keep_0  (a0 : Nat) (x1 : Int32) (h : gz_H) : Option (Int32 × gz_H) :=
    if x1 < 0 then (
     some ((-1 : Int32), h)
    ) else (
     if x1 < (3 : Int32) then (
      gz_ck (gz_sh h a0 8 19) <|
      gz_br (h.2.2.2 a0 9) fun r_4 =>
      gz_ck (gz_sh h r_4 1 4) <|
      gz_b2 (fX1_hasGeese r_4 h) fun y_6 h_5 =>
      if y_6 = 0 then (
       some ((-4 : Int32), h_5)
      ) else (
       gz_ck (gz_sh h_5 a0 8 19) <|
       gz_br (h_5.2.2.2 a0 8) fun r_10 =>
       gz_ck (gz_inb h_5 r_10 12 x1) <|
       gz_br (h_5.2.2.2 r_10 x1.toNatClampNeg) fun r_12 =>
       gz_br (h_5.2.2.2 a0 7) fun r_13 =>
       gz_ck (gz_sh h_5 r_12 3 2) <|
       gz_b2 (fX3_become r_12 r_13 h_5) fun _ h_14 =>
       gz_ck (gz_sh h_14 a0 8 19) <|
       gz_br (h_14.2.2.2 a0 7) fun r_18 =>
       gz_ck (gz_sh h_14 r_18 3 2) <|
       some (h_14.2.1 r_18 1, h_14)
      )
     ) else (
      some ((-1 : Int32), h)
     )
    )
set_option maxRecDepth 100000 in
set_option maxHeartbeats 1000000 in
theorem sX8_keep_0 {G : gz_G} {d l0 s0 : Nat} {Q : Int32 → gz_H → Prop} (a0 : Nat) (x1 : Int32) (h : gz_H) (hf : gz_g (fX8_keep_0  a0 x1 h) Q) : gz_Ok G mX8_keep (d + 2, l0, s0, 0, 0) 0 [.ref a0, .int x1] [] h (gz_qi Q) := by
  unfold fX8_keep_0 at hf
  refine gz_iload_n (pc := 0) dX8_keep_0 rfl rfl ?_
  refine gz_if_lt (tgt := 9) (pc := 1) dX8_keep_1 rfl (fun c_1 => ?_) (fun c_1 => ?_)
  · have hf := gz_gT hf c_1
    refine gz_iconst (v := (-1 : Int32)) (pc := 9) dX8_keep_9 rfl ?_
    exact gz_irt (pc := 10) dX8_keep_10 rfl rfl hf
  · have hf := gz_gF hf c_1
    refine gz_iload_n (pc := 4) dX8_keep_4 rfl rfl ?_
    refine gz_iconst (v := (3 : Int32)) (pc := 5) dX8_keep_5 rfl ?_
    refine gz_icmp_lt (tgt := 11) (pc := 6) dX8_keep_6 rfl (fun c_2 => ?_) (fun c_2 => ?_)
    · have hf := gz_gT hf c_2
      refine gz_aload_n (pc := 11) dX8_keep_11 rfl rfl ?_
      refine gz_gk hf (fun c_3 hf => ?_)
      refine gz_gb hf (fun r_4 er_4 hf => ?_)
      refine gz_getR (pc := 12) dX8_keep_12 fl_RX8_70 rfl (gz_shs c_3) er_4 ?_
      refine gz_gk hf (fun c_7 hf => ?_)
      refine gz_cVI (av := []) (st := []) (pc := 15) dX8_keep_15 kl_RX8_183 rfl (gz_shs c_7) rfl rfl (Nat.le_of_ble_eq_true rfl) (by show d + 1 + 0 + 1 ≤ d + 2; omega) (sX1_hasGeese (d := d + 1) (gz_gc hf)) (fun y_6 h_5 hf => ?_)
      refine gz_if_ne (tgt := 24) (pc := 18) dX8_keep_18 rfl (fun c_8 => ?_) (fun c_8 => ?_)
      · have hf := gz_gF hf c_8
        refine gz_aload_n (pc := 24) dX8_keep_24 rfl rfl ?_
        refine gz_gk hf (fun c_9 hf => ?_)
        refine gz_gb hf (fun r_10 er_10 hf => ?_)
        refine gz_getR (pc := 25) dX8_keep_25 fl_RX8_63 rfl (gz_shs c_9) er_10 ?_
        refine gz_iload_n (pc := 28) dX8_keep_28 rfl rfl ?_
        refine gz_gk hf (fun c_11 hf => ?_)
        refine gz_gb hf (fun r_12 er_12 hf => ?_)
        refine gz_aald (Or.inr (Or.inl rfl)) (pc := 29) dX8_keep_29 c_11 er_12 ?_
        refine gz_aload_n (pc := 30) dX8_keep_30 rfl rfl ?_
        refine gz_gb hf (fun r_13 er_13 hf => ?_)
        refine gz_getR (pc := 31) dX8_keep_31 fl_RX8_59 rfl (gz_shs c_9) er_13 ?_
        refine gz_gk hf (fun c_16 hf => ?_)
        refine gz_cVV (av := [.ref r_13]) (st := []) (pc := 34) dX8_keep_34 kl_RX8_187 rfl (gz_shs c_16) rfl rfl (Nat.le_of_ble_eq_true rfl) (by show d + 0 + 1 + 1 ≤ d + 2; omega) (sX3_become (d := d + 0) (gz_gc hf)) (fun _ h_14 hf => ?_)
        refine gz_aload_n (pc := 37) dX8_keep_37 rfl rfl ?_
        refine gz_gk hf (fun c_17 hf => ?_)
        refine gz_gb hf (fun r_18 er_18 hf => ?_)
        refine gz_getR (pc := 38) dX8_keep_38 fl_RX8_59 rfl (gz_shs c_17) er_18 ?_
        refine gz_gk hf (fun c_19 hf => ?_)
        refine gz_getI (pc := 41) dX8_keep_41 fl_RX8_99 rfl (gz_shs c_19) ?_
        exact gz_irt (pc := 44) dX8_keep_44 rfl rfl hf
      · have hf := gz_gT hf c_8
        refine gz_bipush (v := (-4 : Int32)) (pc := 21) dX8_keep_21 rfl ?_
        exact gz_irt (pc := 23) dX8_keep_23 rfl rfl hf
    · have hf := gz_gF hf c_2
      refine gz_iconst (v := (-1 : Int32)) (pc := 9) dX8_keep_9 rfl ?_
      exact gz_irt (pc := 10) dX8_keep_10 rfl rfl hf
def fX8_keep (a0 : Nat) (x1 : Int32) (h : gz_H) : Option (Int32 × gz_H) := fX8_keep_0 a0 x1 h
theorem sX8_keep {G : gz_G} {d : Nat} {a0 : Nat} {x1 : Int32} {h : gz_H} {Q : Int32 → gz_H → Prop} (hf : gz_g (fX8_keep a0 x1 h) Q) : gz_Cl G mX8_keep (d + 2) 0 0 [.ref a0, .int x1] h (gz_qi Q) := gz_cl_of (lo := [.ref a0, .int x1]) (by decide) rfl rfl (Nat.le_of_ble_eq_true rfl) (sX8_keep_0 a0 x1 h hf)
theorem dX8_on_0 : decode cX8_on 0 = .ok (.iload_n 1, 1) := by decide +kernel
theorem dX8_on_1 : decode cX8_on 1 = .ok (.ifCond .lt 8, 3) := by decide +kernel
theorem dX8_on_4 : decode cX8_on 4 = .ok (.iload_n 1, 1) := by decide +kernel
theorem dX8_on_5 : decode cX8_on 5 = .ok (.iconst 3, 1) := by decide +kernel
theorem dX8_on_6 : decode cX8_on 6 = .ok (.if_icmp .lt 5, 3) := by decide +kernel
theorem dX8_on_9 : decode cX8_on 9 = .ok (.iconst (-1), 1) := by decide +kernel
theorem dX8_on_10 : decode cX8_on 10 = .ok (.ireturn, 1) := by decide +kernel
theorem dX8_on_11 : decode cX8_on 11 = .ok (.aload_n 0, 1) := by decide +kernel
theorem dX8_on_12 : decode cX8_on 12 = .ok (.getfield 63, 3) := by decide +kernel
theorem dX8_on_15 : decode cX8_on 15 = .ok (.iload_n 1, 1) := by decide +kernel
theorem dX8_on_16 : decode cX8_on 16 = .ok (.aaload, 1) := by decide +kernel
theorem dX8_on_17 : decode cX8_on 17 = .ok (.getfield 99, 3) := by decide +kernel
theorem dX8_on_20 : decode cX8_on 20 = .ok (.iconst (-1), 1) := by decide +kernel
theorem dX8_on_21 : decode cX8_on 21 = .ok (.if_icmp .ne 12, 3) := by decide +kernel
theorem dX8_on_24 : decode cX8_on 24 = .ok (.aload_n 0, 1) := by decide +kernel
theorem dX8_on_25 : decode cX8_on 25 = .ok (.getfield 31, 3) := by decide +kernel
theorem dX8_on_28 : decode cX8_on 28 = .ok (.iconst 1, 1) := by decide +kernel
theorem dX8_on_29 : decode cX8_on 29 = .ok (.invokevirtual 125, 3) := by decide +kernel
theorem dX8_on_32 : decode cX8_on 32 = .ok (.ireturn, 1) := by decide +kernel
theorem dX8_on_33 : decode cX8_on 33 = .ok (.aload_n 0, 1) := by decide +kernel
theorem dX8_on_34 : decode cX8_on 34 = .ok (.getfield 59, 3) := by decide +kernel
theorem dX8_on_37 : decode cX8_on 37 = .ok (.aload_n 0, 1) := by decide +kernel
theorem dX8_on_38 : decode cX8_on 38 = .ok (.getfield 63, 3) := by decide +kernel
theorem dX8_on_41 : decode cX8_on 41 = .ok (.iload_n 1, 1) := by decide +kernel
theorem dX8_on_42 : decode cX8_on 42 = .ok (.aaload, 1) := by decide +kernel
theorem dX8_on_43 : decode cX8_on 43 = .ok (.invokevirtual 187, 3) := by decide +kernel
theorem dX8_on_46 : decode cX8_on 46 = .ok (.aload_n 0, 1) := by decide +kernel
theorem dX8_on_47 : decode cX8_on 47 = .ok (.invokevirtual 146, 3) := by decide +kernel
theorem dX8_on_50 : decode cX8_on 50 = .ok (.aload_n 0, 1) := by decide +kernel
theorem dX8_on_51 : decode cX8_on 51 = .ok (.getfield 59, 3) := by decide +kernel
theorem dX8_on_54 : decode cX8_on 54 = .ok (.getfield 99, 3) := by decide +kernel
theorem dX8_on_57 : decode cX8_on 57 = .ok (.ireturn, 1) := by decide +kernel
def fX8_on_0  (a0 : Nat) (x1 : Int32) (h : gz_H) : Option (Int32 × gz_H) :=
    if x1 < 0 then (
     some ((-1 : Int32), h)
    ) else (
     if x1 < (3 : Int32) then (
      gz_ck (gz_sh h a0 8 19) <|
      gz_br (h.2.2.2 a0 8) fun r_4 =>
      gz_ck (gz_inb h r_4 12 x1) <|
      gz_br (h.2.2.2 r_4 x1.toNatClampNeg) fun r_6 =>
      gz_ck (gz_sh h r_6 3 2) <|
      if (h.2.1 r_6 1) = (-1 : Int32) then (
       gz_br (h.2.2.2 a0 3) fun r_19 =>
       gz_ck (gz_sh h r_19 0 2) <|
       gz_b2 (fX0_answer r_19 (1 : Int32) h) fun y_21 h_20 =>
       some (y_21, h_20)
      ) else (
       gz_br (h.2.2.2 a0 7) fun r_9 =>
       gz_ck (gz_sh h r_9 3 2) <|
       gz_b2 (fX3_become r_9 r_6 h) fun _ h_10 =>
       gz_ck (gz_sh h_10 a0 8 19) <|
       gz_b2 (fX8_repeatDeeds a0 h_10) fun _ h_13 =>
       gz_ck (gz_sh h_13 a0 8 19) <|
       gz_br (h_13.2.2.2 a0 7) fun r_17 =>
       gz_ck (gz_sh h_13 r_17 3 2) <|
       some (h_13.2.1 r_17 1, h_13)
      )
     ) else (
      some ((-1 : Int32), h)
     )
    )
set_option maxRecDepth 100000 in
set_option maxHeartbeats 1000000 in
theorem sX8_on_0 {G : gz_G} {d l0 s0 : Nat} {Q : Int32 → gz_H → Prop} (a0 : Nat) (x1 : Int32) (h : gz_H) (hf : gz_g (fX8_on_0  a0 x1 h) Q) : gz_Ok G mX8_on (d + 7, l0, s0, 0, 0) 0 [.ref a0, .int x1] [] h (gz_qi Q) := by
  unfold fX8_on_0 at hf
  refine gz_iload_n (pc := 0) dX8_on_0 rfl rfl ?_
  refine gz_if_lt (tgt := 9) (pc := 1) dX8_on_1 rfl (fun c_1 => ?_) (fun c_1 => ?_)
  · have hf := gz_gT hf c_1
    refine gz_iconst (v := (-1 : Int32)) (pc := 9) dX8_on_9 rfl ?_
    exact gz_irt (pc := 10) dX8_on_10 rfl rfl hf
  · have hf := gz_gF hf c_1
    refine gz_iload_n (pc := 4) dX8_on_4 rfl rfl ?_
    refine gz_iconst (v := (3 : Int32)) (pc := 5) dX8_on_5 rfl ?_
    refine gz_icmp_lt (tgt := 11) (pc := 6) dX8_on_6 rfl (fun c_2 => ?_) (fun c_2 => ?_)
    · have hf := gz_gT hf c_2
      refine gz_aload_n (pc := 11) dX8_on_11 rfl rfl ?_
      refine gz_gk hf (fun c_3 hf => ?_)
      refine gz_gb hf (fun r_4 er_4 hf => ?_)
      refine gz_getR (pc := 12) dX8_on_12 fl_RX8_63 rfl (gz_shs c_3) er_4 ?_
      refine gz_iload_n (pc := 15) dX8_on_15 rfl rfl ?_
      refine gz_gk hf (fun c_5 hf => ?_)
      refine gz_gb hf (fun r_6 er_6 hf => ?_)
      refine gz_aald (Or.inr (Or.inl rfl)) (pc := 16) dX8_on_16 c_5 er_6 ?_
      refine gz_gk hf (fun c_7 hf => ?_)
      refine gz_getI (pc := 17) dX8_on_17 fl_RX8_99 rfl (gz_shs c_7) ?_
      refine gz_iconst (v := (-1 : Int32)) (pc := 20) dX8_on_20 rfl ?_
      refine gz_icmp_ne (tgt := 33) (pc := 21) dX8_on_21 rfl (fun c_8 => ?_) (fun c_8 => ?_)
      · have hf := gz_gF hf c_8
        refine gz_aload_n (pc := 33) dX8_on_33 rfl rfl ?_
        refine gz_gb hf (fun r_9 er_9 hf => ?_)
        refine gz_getR (pc := 34) dX8_on_34 fl_RX8_59 rfl (gz_shs c_3) er_9 ?_
        refine gz_aload_n (pc := 37) dX8_on_37 rfl rfl ?_
        refine gz_getR (pc := 38) dX8_on_38 fl_RX8_63 rfl (gz_shs c_3) er_4 ?_
        refine gz_iload_n (pc := 41) dX8_on_41 rfl rfl ?_
        refine gz_aald (Or.inr (Or.inl rfl)) (pc := 42) dX8_on_42 c_5 er_6 ?_
        refine gz_gk hf (fun c_12 hf => ?_)
        refine gz_cVV (av := [.ref r_6]) (st := []) (pc := 43) dX8_on_43 kl_RX8_187 rfl (gz_shs c_12) rfl rfl (Nat.le_of_ble_eq_true rfl) (by show d + 5 + 1 + 1 ≤ d + 7; omega) (sX3_become (d := d + 5) (gz_gc hf)) (fun _ h_10 hf => ?_)
        refine gz_aload_n (pc := 46) dX8_on_46 rfl rfl ?_
        refine gz_gk hf (fun c_15 hf => ?_)
        refine gz_cVV (av := []) (st := []) (pc := 47) dX8_on_47 kl_RX8_146 rfl (gz_shs c_15) rfl rfl (Nat.le_of_ble_eq_true rfl) (by show d + 0 + 6 + 1 ≤ d + 7; omega) (sX8_repeatDeeds (d := d + 0) (gz_gc hf)) (fun _ h_13 hf => ?_)
        refine gz_aload_n (pc := 50) dX8_on_50 rfl rfl ?_
        refine gz_gk hf (fun c_16 hf => ?_)
        refine gz_gb hf (fun r_17 er_17 hf => ?_)
        refine gz_getR (pc := 51) dX8_on_51 fl_RX8_59 rfl (gz_shs c_16) er_17 ?_
        refine gz_gk hf (fun c_18 hf => ?_)
        refine gz_getI (pc := 54) dX8_on_54 fl_RX8_99 rfl (gz_shs c_18) ?_
        exact gz_irt (pc := 57) dX8_on_57 rfl rfl hf
      · have hf := gz_gT hf c_8
        refine gz_aload_n (pc := 24) dX8_on_24 rfl rfl ?_
        refine gz_gb hf (fun r_19 er_19 hf => ?_)
        refine gz_getR (pc := 25) dX8_on_25 fl_RX8_31 rfl (gz_shs c_3) er_19 ?_
        refine gz_iconst (v := (1 : Int32)) (pc := 28) dX8_on_28 rfl ?_
        refine gz_gk hf (fun c_22 hf => ?_)
        refine gz_cVI (av := [.int (1 : Int32)]) (st := []) (pc := 29) dX8_on_29 kl_RX8_125 rfl (gz_shs c_22) rfl rfl (Nat.le_of_ble_eq_true rfl) (by show d + 6 + 0 + 1 ≤ d + 7; omega) (sX0_answer (d := d + 6) (gz_gc hf)) (fun y_21 h_20 hf => ?_)
        exact gz_irt (pc := 32) dX8_on_32 rfl rfl hf
    · have hf := gz_gF hf c_2
      refine gz_iconst (v := (-1 : Int32)) (pc := 9) dX8_on_9 rfl ?_
      exact gz_irt (pc := 10) dX8_on_10 rfl rfl hf
def fX8_on (a0 : Nat) (x1 : Int32) (h : gz_H) : Option (Int32 × gz_H) := fX8_on_0 a0 x1 h
theorem sX8_on {G : gz_G} {d : Nat} {a0 : Nat} {x1 : Int32} {h : gz_H} {Q : Int32 → gz_H → Prop} (hf : gz_g (fX8_on a0 x1 h) Q) : gz_Cl G mX8_on (d + 7) 0 0 [.ref a0, .int x1] h (gz_qi Q) := gz_cl_of (lo := [.ref a0, .int x1]) (by decide) rfl rfl (Nat.le_of_ble_eq_true rfl) (sX8_on_0 a0 x1 h hf)
theorem dX8_tells_0 : decode cX8_tells 0 = .ok (.aload_n 0, 1) := by decide +kernel
theorem dX8_tells_1 : decode cX8_tells 1 = .ok (.getfield 70, 3) := by decide +kernel
theorem dX8_tells_4 : decode cX8_tells 4 = .ok (.iload_n 1, 1) := by decide +kernel
theorem dX8_tells_5 : decode cX8_tells 5 = .ok (.invokevirtual 150, 3) := by decide +kernel
theorem dX8_tells_8 : decode cX8_tells 8 = .ok (.ifCond .eq 13, 3) := by decide +kernel
theorem dX8_tells_11 : decode cX8_tells 11 = .ok (.iload_n 2, 1) := by decide +kernel
theorem dX8_tells_12 : decode cX8_tells 12 = .ok (.ifCond .lt 9, 3) := by decide +kernel
theorem dX8_tells_15 : decode cX8_tells 15 = .ok (.iload_n 2, 1) := by decide +kernel
theorem dX8_tells_16 : decode cX8_tells 16 = .ok (.bipush 6, 2) := by decide +kernel
theorem dX8_tells_18 : decode cX8_tells 18 = .ok (.if_icmp .lt 5, 3) := by decide +kernel
theorem dX8_tells_21 : decode cX8_tells 21 = .ok (.iconst (-1), 1) := by decide +kernel
theorem dX8_tells_22 : decode cX8_tells 22 = .ok (.ireturn, 1) := by decide +kernel
theorem dX8_tells_23 : decode cX8_tells 23 = .ok (.aload_n 0, 1) := by decide +kernel
theorem dX8_tells_24 : decode cX8_tells 24 = .ok (.getfield 70, 3) := by decide +kernel
theorem dX8_tells_27 : decode cX8_tells 27 = .ok (.iload_n 1, 1) := by decide +kernel
theorem dX8_tells_28 : decode cX8_tells 28 = .ok (.iload_n 2, 1) := by decide +kernel
theorem dX8_tells_29 : decode cX8_tells 29 = .ok (.invokevirtual 191, 3) := by decide +kernel
theorem dX8_tells_32 : decode cX8_tells 32 = .ok (.ireturn, 1) := by decide +kernel
def fX8_tells_0  (a0 : Nat) (x1 : Int32) (x2 : Int32) (h : gz_H) : Option (Int32 × gz_H) :=
    gz_ck (gz_sh h a0 8 19) <|
    gz_br (h.2.2.2 a0 9) fun r_2 =>
    gz_ck (gz_sh h r_2 1 4) <|
    gz_b2 (fX1_hasGoose r_2 x1 h) fun y_4 h_3 =>
    if y_4 = 0 then (
     some ((-1 : Int32), h_3)
    ) else (
     if x2 < 0 then (
      some ((-1 : Int32), h_3)
     ) else (
      if x2 < (6 : Int32) then (
       gz_ck (gz_sh h_3 a0 8 19) <|
       gz_br (h_3.2.2.2 a0 9) fun r_10 =>
       gz_ck (gz_sh h_3 r_10 1 4) <|
       gz_b2 (fX1_toldAt r_10 x1 x2 h_3) fun y_12 h_11 =>
       some (y_12, h_11)
      ) else (
       some ((-1 : Int32), h_3)
      )
     )
    )
set_option maxRecDepth 100000 in
set_option maxHeartbeats 1000000 in
theorem sX8_tells_0 {G : gz_G} {d l0 s0 : Nat} {Q : Int32 → gz_H → Prop} (a0 : Nat) (x1 : Int32) (x2 : Int32) (h : gz_H) (hf : gz_g (fX8_tells_0  a0 x1 x2 h) Q) : gz_Ok G mX8_tells (d + 3, l0, s0, 0, 0) 0 [.ref a0, .int x1, .int x2] [] h (gz_qi Q) := by
  unfold fX8_tells_0 at hf
  refine gz_aload_n (pc := 0) dX8_tells_0 rfl rfl ?_
  refine gz_gk hf (fun c_1 hf => ?_)
  refine gz_gb hf (fun r_2 er_2 hf => ?_)
  refine gz_getR (pc := 1) dX8_tells_1 fl_RX8_70 rfl (gz_shs c_1) er_2 ?_
  refine gz_iload_n (pc := 4) dX8_tells_4 rfl rfl ?_
  refine gz_gk hf (fun c_5 hf => ?_)
  refine gz_cVI (av := [.int x1]) (st := []) (pc := 5) dX8_tells_5 kl_RX8_150 rfl (gz_shs c_5) rfl rfl (Nat.le_of_ble_eq_true rfl) (by show d + 2 + 0 + 1 ≤ d + 3; omega) (sX1_hasGoose (d := d + 2) (gz_gc hf)) (fun y_4 h_3 hf => ?_)
  refine gz_if_eq (tgt := 21) (pc := 8) dX8_tells_8 rfl (fun c_6 => ?_) (fun c_6 => ?_)
  · have hf := gz_gT hf c_6
    refine gz_iconst (v := (-1 : Int32)) (pc := 21) dX8_tells_21 rfl ?_
    exact gz_irt (pc := 22) dX8_tells_22 rfl rfl hf
  · have hf := gz_gF hf c_6
    refine gz_iload_n (pc := 11) dX8_tells_11 rfl rfl ?_
    refine gz_if_lt (tgt := 21) (pc := 12) dX8_tells_12 rfl (fun c_7 => ?_) (fun c_7 => ?_)
    · have hf := gz_gT hf c_7
      refine gz_iconst (v := (-1 : Int32)) (pc := 21) dX8_tells_21 rfl ?_
      exact gz_irt (pc := 22) dX8_tells_22 rfl rfl hf
    · have hf := gz_gF hf c_7
      refine gz_iload_n (pc := 15) dX8_tells_15 rfl rfl ?_
      refine gz_bipush (v := (6 : Int32)) (pc := 16) dX8_tells_16 rfl ?_
      refine gz_icmp_lt (tgt := 23) (pc := 18) dX8_tells_18 rfl (fun c_8 => ?_) (fun c_8 => ?_)
      · have hf := gz_gT hf c_8
        refine gz_aload_n (pc := 23) dX8_tells_23 rfl rfl ?_
        refine gz_gk hf (fun c_9 hf => ?_)
        refine gz_gb hf (fun r_10 er_10 hf => ?_)
        refine gz_getR (pc := 24) dX8_tells_24 fl_RX8_70 rfl (gz_shs c_9) er_10 ?_
        refine gz_iload_n (pc := 27) dX8_tells_27 rfl rfl ?_
        refine gz_iload_n (pc := 28) dX8_tells_28 rfl rfl ?_
        refine gz_gk hf (fun c_13 hf => ?_)
        refine gz_cVI (av := [.int x1, .int x2]) (st := []) (pc := 29) dX8_tells_29 kl_RX8_191 rfl (gz_shs c_13) rfl rfl (Nat.le_of_ble_eq_true rfl) (by show d + 0 + 2 + 1 ≤ d + 3; omega) (sX1_toldAt (d := d + 0) (gz_gc hf)) (fun y_12 h_11 hf => ?_)
        exact gz_irt (pc := 32) dX8_tells_32 rfl rfl hf
      · have hf := gz_gF hf c_8
        refine gz_iconst (v := (-1 : Int32)) (pc := 21) dX8_tells_21 rfl ?_
        exact gz_irt (pc := 22) dX8_tells_22 rfl rfl hf
def fX8_tells (a0 : Nat) (x1 : Int32) (x2 : Int32) (h : gz_H) : Option (Int32 × gz_H) := fX8_tells_0 a0 x1 x2 h
theorem sX8_tells {G : gz_G} {d : Nat} {a0 : Nat} {x1 : Int32} {x2 : Int32} {h : gz_H} {Q : Int32 → gz_H → Prop} (hf : gz_g (fX8_tells a0 x1 x2 h) Q) : gz_Cl G mX8_tells (d + 3) 0 0 [.ref a0, .int x1, .int x2] h (gz_qi Q) := gz_cl_of (lo := [.ref a0, .int x1, .int x2]) (by decide) rfl rfl (Nat.le_of_ble_eq_true rfl) (sX8_tells_0 a0 x1 x2 h hf)
theorem dX8_hearAll_0 : decode cX8_hearAll 0 = .ok (.iconst 0, 1) := by decide +kernel
theorem dX8_hearAll_1 : decode cX8_hearAll 1 = .ok (.istore_n 1, 1) := by decide +kernel
theorem dX8_hearAll_2 : decode cX8_hearAll 2 = .ok (.iload_n 1, 1) := by decide +kernel
theorem dX8_hearAll_3 : decode cX8_hearAll 3 = .ok (.bipush 6, 2) := by decide +kernel
theorem dX8_hearAll_5 : decode cX8_hearAll 5 = .ok (.if_icmp .ge 38, 3) := by decide +kernel
theorem dX8_hearAll_8 : decode cX8_hearAll 8 = .ok (.aload_n 0, 1) := by decide +kernel
theorem dX8_hearAll_9 : decode cX8_hearAll 9 = .ok (.getfield 80, 3) := by decide +kernel
theorem dX8_hearAll_12 : decode cX8_hearAll 12 = .ok (.iload_n 1, 1) := by decide +kernel
theorem dX8_hearAll_13 : decode cX8_hearAll 13 = .ok (.aload_n 0, 1) := by decide +kernel
theorem dX8_hearAll_14 : decode cX8_hearAll 14 = .ok (.getfield 70, 3) := by decide +kernel
theorem dX8_hearAll_17 : decode cX8_hearAll 17 = .ok (.iload_n 1, 1) := by decide +kernel
theorem dX8_hearAll_18 : decode cX8_hearAll 18 = .ok (.invokevirtual 150, 3) := by decide +kernel
theorem dX8_hearAll_21 : decode cX8_hearAll 21 = .ok (.ifCond .eq 14, 3) := by decide +kernel
theorem dX8_hearAll_24 : decode cX8_hearAll 24 = .ok (.aload_n 0, 1) := by decide +kernel
theorem dX8_hearAll_25 : decode cX8_hearAll 25 = .ok (.getfield 70, 3) := by decide +kernel
theorem dX8_hearAll_28 : decode cX8_hearAll 28 = .ok (.iload_n 1, 1) := by decide +kernel
theorem dX8_hearAll_29 : decode cX8_hearAll 29 = .ok (.invokevirtual 376, 3) := by decide +kernel
theorem dX8_hearAll_32 : decode cX8_hearAll 32 = .ok (.goto 4, 3) := by decide +kernel
theorem dX8_hearAll_35 : decode cX8_hearAll 35 = .ok (.iconst 0, 1) := by decide +kernel
theorem dX8_hearAll_36 : decode cX8_hearAll 36 = .ok (.iastore, 1) := by decide +kernel
theorem dX8_hearAll_37 : decode cX8_hearAll 37 = .ok (.iinc 1 1, 3) := by decide +kernel
theorem dX8_hearAll_40 : decode cX8_hearAll 40 = .ok (.goto (-38), 3) := by decide +kernel
theorem dX8_hearAll_43 : decode cX8_hearAll 43 = .ok (.return_, 1) := by decide +kernel
def fX8_hearAll_36 (k2 : Nat → Int32 → gz_H → Option (Unit × gz_H)) (a0 : Nat) (x1 : Int32) (b0 : Nat) (w1 : Int32) (w2 : Int32) (h : gz_H) : Option (Unit × gz_H) :=
    gz_ck (gz_inb h b0 10 w1) <|
    gz_lt (uI h b0 w1.toNatClampNeg w2) fun h_2 =>
    k2 a0 (x1 + 1) h_2
set_option maxRecDepth 100000 in
set_option maxHeartbeats 1000000 in
theorem sX8_hearAll_36 {G : gz_G} {d l0 s0 : Nat} {Q : Unit → gz_H → Prop} {k2 : Nat → Int32 → gz_H → Option (Unit × gz_H)} (hk2 : ∀ (a0 : Nat) (x1 : Int32) (h : gz_H), gz_g (k2 a0 x1 h) Q → gz_Ok G mX8_hearAll (d + 4, l0, s0, 0, 0) 2 [.ref a0, .int x1] [] h (gz_qu Q)) (a0 : Nat) (x1 : Int32) (b0 : Nat) (w1 : Int32) (w2 : Int32) (h : gz_H) (hf : gz_g (fX8_hearAll_36 k2 a0 x1 b0 w1 w2 h) Q) : gz_Ok G mX8_hearAll (d + 4, l0, s0, 0, 0) 36 [.ref a0, .int x1] [.int w2, .int w1, .ref b0] h (gz_qu Q) := by
  unfold fX8_hearAll_36 at hf
  refine gz_gk hf (fun c_1 hf => ?_)
  refine gz_iast (pc := 36) dX8_hearAll_36 c_1 ?_
  refine gz_nmH (fun h_2 eh_2 => ?_)
  have hf := gz_gl eh_2 hf
  refine gz_iinc (v := x1 + 1) (lv := [.ref a0, .int (x1 + 1)]) (pc := 37) dX8_hearAll_37 rfl rfl (by decide) rfl ?_
  refine gz_goto (tgt := 2) (pc := 40) dX8_hearAll_40 rfl ?_
  exact hk2 a0 (x1 + 1) h_2 hf
def fX8_hearAll_2  : Nat → Nat → Int32 → gz_H → Option (Unit × gz_H)
  | 0, _, _, _ => none
  | n + 1, a0, x1, h =>
    if (6 : Int32) ≤ x1 then (
     some ((), h)
    ) else (
     gz_ck (gz_sh h a0 8 19) <|
     gz_br (h.2.2.2 a0 12) fun r_3 =>
     gz_br (h.2.2.2 a0 9) fun r_4 =>
     gz_ck (gz_sh h r_4 1 4) <|
     gz_b2 (fX1_hasGoose r_4 x1 h) fun y_6 h_5 =>
     if y_6 = 0 then (
      fX8_hearAll_36 (fun z0 z1 zh => fX8_hearAll_2 n z0 z1 zh) a0 x1 r_3 x1 (0 : Int32) h_5
     ) else (
      gz_ck (gz_sh h_5 a0 8 19) <|
      gz_br (h_5.2.2.2 a0 9) fun r_10 =>
      gz_ck (gz_sh h_5 r_10 1 4) <|
      gz_b2 (fX1_toldSomewhere r_10 x1 h_5) fun y_12 h_11 =>
      fX8_hearAll_36 (fun z0 z1 zh => fX8_hearAll_2 n z0 z1 zh) a0 x1 r_3 x1 y_12 h_11
     )
    )
set_option maxRecDepth 100000 in
set_option maxHeartbeats 1000000 in
theorem sX8_hearAll_2 {G : gz_G} {d l0 s0 : Nat} {Q : Unit → gz_H → Prop} : ∀ (n : Nat) (a0 : Nat) (x1 : Int32) (h : gz_H), gz_g (fX8_hearAll_2  n a0 x1 h) Q → gz_Ok G mX8_hearAll (d + 4, l0, s0, 0, 0) 2 [.ref a0, .int x1] [] h (gz_qu Q) := by
  intro n
  induction n with
  | zero => intro a0 x1 h hf; exact False.elim hf
  | succ n ih =>
    intro a0 x1 h hf
    rw [fX8_hearAll_2] at hf
    refine gz_iload_n (pc := 2) dX8_hearAll_2 rfl rfl ?_
    refine gz_bipush (v := (6 : Int32)) (pc := 3) dX8_hearAll_3 rfl ?_
    refine gz_icmp_ge (tgt := 43) (pc := 5) dX8_hearAll_5 rfl (fun c_1 => ?_) (fun c_1 => ?_)
    · have hf := gz_gT hf c_1
      exact gz_uret (pc := 43) dX8_hearAll_43 rfl hf
    · have hf := gz_gF hf c_1
      refine gz_aload_n (pc := 8) dX8_hearAll_8 rfl rfl ?_
      refine gz_gk hf (fun c_2 hf => ?_)
      refine gz_gb hf (fun r_3 er_3 hf => ?_)
      refine gz_getR (pc := 9) dX8_hearAll_9 fl_RX8_80 rfl (gz_shs c_2) er_3 ?_
      refine gz_iload_n (pc := 12) dX8_hearAll_12 rfl rfl ?_
      refine gz_aload_n (pc := 13) dX8_hearAll_13 rfl rfl ?_
      refine gz_gb hf (fun r_4 er_4 hf => ?_)
      refine gz_getR (pc := 14) dX8_hearAll_14 fl_RX8_70 rfl (gz_shs c_2) er_4 ?_
      refine gz_iload_n (pc := 17) dX8_hearAll_17 rfl rfl ?_
      refine gz_gk hf (fun c_7 hf => ?_)
      refine gz_cVI (av := [.int x1]) (st := [.int x1, .ref r_3]) (pc := 18) dX8_hearAll_18 kl_RX8_150 rfl (gz_shs c_7) rfl rfl (Nat.le_of_ble_eq_true rfl) (by show d + 3 + 0 + 1 ≤ d + 4; omega) (sX1_hasGoose (d := d + 3) (gz_gc hf)) (fun y_6 h_5 hf => ?_)
      refine gz_if_eq (tgt := 35) (pc := 21) dX8_hearAll_21 rfl (fun c_8 => ?_) (fun c_8 => ?_)
      · have hf := gz_gT hf c_8
        refine gz_iconst (v := (0 : Int32)) (pc := 35) dX8_hearAll_35 rfl ?_
        exact sX8_hearAll_36 ih a0 x1 r_3 x1 (0 : Int32) h_5 hf
      · have hf := gz_gF hf c_8
        refine gz_aload_n (pc := 24) dX8_hearAll_24 rfl rfl ?_
        refine gz_gk hf (fun c_9 hf => ?_)
        refine gz_gb hf (fun r_10 er_10 hf => ?_)
        refine gz_getR (pc := 25) dX8_hearAll_25 fl_RX8_70 rfl (gz_shs c_9) er_10 ?_
        refine gz_iload_n (pc := 28) dX8_hearAll_28 rfl rfl ?_
        refine gz_gk hf (fun c_13 hf => ?_)
        refine gz_cVI (av := [.int x1]) (st := [.int x1, .ref r_3]) (pc := 29) dX8_hearAll_29 kl_RX8_376 rfl (gz_shs c_13) rfl rfl (Nat.le_of_ble_eq_true rfl) (by show d + 0 + 3 + 1 ≤ d + 4; omega) (sX1_toldSomewhere (d := d + 0) (gz_gc hf)) (fun y_12 h_11 hf => ?_)
        refine gz_goto (tgt := 36) (pc := 32) dX8_hearAll_32 rfl ?_
        exact sX8_hearAll_36 ih a0 x1 r_3 x1 y_12 h_11 hf
def fX8_hearAll_0  (a0 : Nat) (h : gz_H) : Option (Unit × gz_H) :=
    fX8_hearAll_2 gz_fu a0 (0 : Int32) h
set_option maxRecDepth 100000 in
set_option maxHeartbeats 1000000 in
theorem sX8_hearAll_0 {G : gz_G} {d l0 s0 : Nat} {Q : Unit → gz_H → Prop} (a0 : Nat) (h : gz_H) (hf : gz_g (fX8_hearAll_0  a0 h) Q) : gz_Ok G mX8_hearAll (d + 4, l0, s0, 0, 0) 0 [.ref a0, .retAddr 0] [] h (gz_qu Q) := by
  unfold fX8_hearAll_0 at hf
  refine gz_iconst (v := (0 : Int32)) (pc := 0) dX8_hearAll_0 rfl ?_
  refine gz_istore_n (lv := [.ref a0, .int (0 : Int32)]) (pc := 1) dX8_hearAll_1 rfl (by decide) rfl ?_
  exact sX8_hearAll_2 gz_fu a0 (0 : Int32) h hf
def fX8_hearAll (a0 : Nat) (h : gz_H) : Option (Unit × gz_H) := fX8_hearAll_0 a0 h
theorem sX8_hearAll {G : gz_G} {d : Nat} {a0 : Nat} {h : gz_H} {Q : Unit → gz_H → Prop} (hf : gz_g (fX8_hearAll a0 h) Q) : gz_Cl G mX8_hearAll (d + 4) 0 0 [.ref a0] h (gz_qu Q) := gz_cl_of (lo := [.ref a0, .retAddr 0]) (by decide) rfl rfl (Nat.le_of_ble_eq_true rfl) (sX8_hearAll_0 a0 h hf)
theorem dX8_joined_0 : decode cX8_joined 0 = .ok (.iconst 0, 1) := by decide +kernel
theorem dX8_joined_1 : decode cX8_joined 1 = .ok (.istore_n 2, 1) := by decide +kernel
theorem dX8_joined_2 : decode cX8_joined 2 = .ok (.iconst 0, 1) := by decide +kernel
theorem dX8_joined_3 : decode cX8_joined 3 = .ok (.istore_n 3, 1) := by decide +kernel
theorem dX8_joined_4 : decode cX8_joined 4 = .ok (.iload_n 3, 1) := by decide +kernel
theorem dX8_joined_5 : decode cX8_joined 5 = .ok (.aload_n 0, 1) := by decide +kernel
theorem dX8_joined_6 : decode cX8_joined 6 = .ok (.arraylength, 1) := by decide +kernel
theorem dX8_joined_7 : decode cX8_joined 7 = .ok (.if_icmp .ge 23, 3) := by decide +kernel
theorem dX8_joined_10 : decode cX8_joined 10 = .ok (.iload_n 1, 1) := by decide +kernel
theorem dX8_joined_11 : decode cX8_joined 11 = .ok (.iload_n 3, 1) := by decide +kernel
theorem dX8_joined_12 : decode cX8_joined 12 = .ok (.ishr, 1) := by decide +kernel
theorem dX8_joined_13 : decode cX8_joined 13 = .ok (.iconst 1, 1) := by decide +kernel
theorem dX8_joined_14 : decode cX8_joined 14 = .ok (.iand, 1) := by decide +kernel
theorem dX8_joined_15 : decode cX8_joined 15 = .ok (.ifCond .eq 9, 3) := by decide +kernel
theorem dX8_joined_18 : decode cX8_joined 18 = .ok (.iload_n 2, 1) := by decide +kernel
theorem dX8_joined_19 : decode cX8_joined 19 = .ok (.aload_n 0, 1) := by decide +kernel
theorem dX8_joined_20 : decode cX8_joined 20 = .ok (.iload_n 3, 1) := by decide +kernel
theorem dX8_joined_21 : decode cX8_joined 21 = .ok (.iaload, 1) := by decide +kernel
theorem dX8_joined_22 : decode cX8_joined 22 = .ok (.ior, 1) := by decide +kernel
theorem dX8_joined_23 : decode cX8_joined 23 = .ok (.istore_n 2, 1) := by decide +kernel
theorem dX8_joined_24 : decode cX8_joined 24 = .ok (.iinc 3 1, 3) := by decide +kernel
theorem dX8_joined_27 : decode cX8_joined 27 = .ok (.goto (-23), 3) := by decide +kernel
theorem dX8_joined_30 : decode cX8_joined 30 = .ok (.iload_n 2, 1) := by decide +kernel
theorem dX8_joined_31 : decode cX8_joined 31 = .ok (.ireturn, 1) := by decide +kernel
def fX8_joined_24 (k4 : Nat → Int32 → Int32 → Int32 → gz_H → Option (Int32 × gz_H)) (a0 : Nat) (x1 : Int32) (x2 : Int32) (x3 : Int32) (h : gz_H) : Option (Int32 × gz_H) :=
    k4 a0 x1 x2 (x3 + 1) h
set_option maxRecDepth 100000 in
set_option maxHeartbeats 1000000 in
theorem sX8_joined_24 {G : gz_G} {d l0 s0 : Nat} {Q : Int32 → gz_H → Prop} {k4 : Nat → Int32 → Int32 → Int32 → gz_H → Option (Int32 × gz_H)} (hk4 : ∀ (a0 : Nat) (x1 : Int32) (x2 : Int32) (x3 : Int32) (h : gz_H), gz_g (k4 a0 x1 x2 x3 h) Q → gz_Ok G mX8_joined (d + 0, l0, s0, 0, 0) 4 [.ref a0, .int x1, .int x2, .int x3] [] h (gz_qi Q)) (a0 : Nat) (x1 : Int32) (x2 : Int32) (x3 : Int32) (h : gz_H) (hf : gz_g (fX8_joined_24 k4 a0 x1 x2 x3 h) Q) : gz_Ok G mX8_joined (d + 0, l0, s0, 0, 0) 24 [.ref a0, .int x1, .int x2, .int x3] [] h (gz_qi Q) := by
  unfold fX8_joined_24 at hf
  refine gz_iinc (v := x3 + 1) (lv := [.ref a0, .int x1, .int x2, .int (x3 + 1)]) (pc := 24) dX8_joined_24 rfl rfl (by decide) rfl ?_
  refine gz_goto (tgt := 4) (pc := 27) dX8_joined_27 rfl ?_
  exact hk4 a0 x1 x2 (x3 + 1) h hf
def fX8_joined_4  : Nat → Nat → Int32 → Int32 → Int32 → gz_H → Option (Int32 × gz_H)
  | 0, _, _, _, _, _ => none
  | n + 1, a0, x1, x2, x3, h =>
    gz_bi (gz_len h a0) fun y_1 =>
    if y_1 ≤ x3 then (
     some (x2, h)
    ) else (
     if ((x1 >>> (x3 &&& 31)) &&& (1 : Int32)) = 0 then (
      fX8_joined_24 (fun z0 z1 z2 z3 zh => fX8_joined_4 n z0 z1 z2 z3 zh) a0 x1 x2 x3 h
     ) else (
      gz_ck (gz_inb h a0 10 x3) <|
      fX8_joined_24 (fun z0 z1 z2 z3 zh => fX8_joined_4 n z0 z1 z2 z3 zh) a0 x1 (x2 ||| (h.2.1 a0 x3.toNatClampNeg)) x3 h
     )
    )
set_option maxRecDepth 100000 in
set_option maxHeartbeats 1000000 in
theorem sX8_joined_4 {G : gz_G} {d l0 s0 : Nat} {Q : Int32 → gz_H → Prop} : ∀ (n : Nat) (a0 : Nat) (x1 : Int32) (x2 : Int32) (x3 : Int32) (h : gz_H), gz_g (fX8_joined_4  n a0 x1 x2 x3 h) Q → gz_Ok G mX8_joined (d + 0, l0, s0, 0, 0) 4 [.ref a0, .int x1, .int x2, .int x3] [] h (gz_qi Q) := by
  intro n
  induction n with
  | zero => intro a0 x1 x2 x3 h hf; exact False.elim hf
  | succ n ih =>
    intro a0 x1 x2 x3 h hf
    rw [fX8_joined_4] at hf
    refine gz_iload_n (pc := 4) dX8_joined_4 rfl rfl ?_
    refine gz_aload_n (pc := 5) dX8_joined_5 rfl rfl ?_
    refine gz_gi hf (fun y_1 ey_1 hf => ?_)
    refine gz_alen (pc := 6) dX8_joined_6 ey_1 ?_
    refine gz_icmp_ge (tgt := 30) (pc := 7) dX8_joined_7 rfl (fun c_2 => ?_) (fun c_2 => ?_)
    · have hf := gz_gT hf c_2
      refine gz_iload_n (pc := 30) dX8_joined_30 rfl rfl ?_
      exact gz_irt (pc := 31) dX8_joined_31 rfl rfl hf
    · have hf := gz_gF hf c_2
      refine gz_iload_n (pc := 10) dX8_joined_10 rfl rfl ?_
      refine gz_iload_n (pc := 11) dX8_joined_11 rfl rfl ?_
      refine gz_ishr (pc := 12) dX8_joined_12 ?_
      refine gz_iconst (v := (1 : Int32)) (pc := 13) dX8_joined_13 rfl ?_
      refine gz_iand (pc := 14) dX8_joined_14 ?_
      refine gz_if_eq (tgt := 24) (pc := 15) dX8_joined_15 rfl (fun c_3 => ?_) (fun c_3 => ?_)
      · have hf := gz_gT hf c_3
        exact sX8_joined_24 ih a0 x1 x2 x3 h hf
      · have hf := gz_gF hf c_3
        refine gz_iload_n (pc := 18) dX8_joined_18 rfl rfl ?_
        refine gz_aload_n (pc := 19) dX8_joined_19 rfl rfl ?_
        refine gz_iload_n (pc := 20) dX8_joined_20 rfl rfl ?_
        refine gz_gk hf (fun c_4 hf => ?_)
        refine gz_iald (pc := 21) dX8_joined_21 c_4 ?_
        refine gz_ior (pc := 22) dX8_joined_22 ?_
        refine gz_istore_n (lv := [.ref a0, .int x1, .int (x2 ||| (h.2.1 a0 x3.toNatClampNeg)), .int x3]) (pc := 23) dX8_joined_23 rfl (by decide) rfl ?_
        exact sX8_joined_24 ih a0 x1 (x2 ||| (h.2.1 a0 x3.toNatClampNeg)) x3 h hf
def fX8_joined_0  (a0 : Nat) (x1 : Int32) (h : gz_H) : Option (Int32 × gz_H) :=
    fX8_joined_4 gz_fu a0 x1 (0 : Int32) (0 : Int32) h
set_option maxRecDepth 100000 in
set_option maxHeartbeats 1000000 in
theorem sX8_joined_0 {G : gz_G} {d l0 s0 : Nat} {Q : Int32 → gz_H → Prop} (a0 : Nat) (x1 : Int32) (h : gz_H) (hf : gz_g (fX8_joined_0  a0 x1 h) Q) : gz_Ok G mX8_joined (d + 0, l0, s0, 0, 0) 0 [.ref a0, .int x1, .retAddr 0, .retAddr 0] [] h (gz_qi Q) := by
  unfold fX8_joined_0 at hf
  refine gz_iconst (v := (0 : Int32)) (pc := 0) dX8_joined_0 rfl ?_
  refine gz_istore_n (lv := [.ref a0, .int x1, .int (0 : Int32), .retAddr 0]) (pc := 1) dX8_joined_1 rfl (by decide) rfl ?_
  refine gz_iconst (v := (0 : Int32)) (pc := 2) dX8_joined_2 rfl ?_
  refine gz_istore_n (lv := [.ref a0, .int x1, .int (0 : Int32), .int (0 : Int32)]) (pc := 3) dX8_joined_3 rfl (by decide) rfl ?_
  exact sX8_joined_4 gz_fu a0 x1 (0 : Int32) (0 : Int32) h hf
def fX8_joined (a0 : Nat) (x1 : Int32) (h : gz_H) : Option (Int32 × gz_H) := fX8_joined_0 a0 x1 h
theorem sX8_joined {G : gz_G} {d : Nat} {a0 : Nat} {x1 : Int32} {h : gz_H} {Q : Int32 → gz_H → Prop} (hf : gz_g (fX8_joined a0 x1 h) Q) : gz_Cl G mX8_joined (d + 0) 0 0 [.ref a0, .int x1] h (gz_qi Q) := gz_cl_of (lo := [.ref a0, .int x1, .retAddr 0, .retAddr 0]) (by decide) rfl rfl (Nat.le_of_ble_eq_true rfl) (sX8_joined_0 a0 x1 h hf)
theorem dX8_told_0 : decode cX8_told 0 = .ok (.aload_n 0, 1) := by decide +kernel
theorem dX8_told_1 : decode cX8_told 1 = .ok (.getfield 70, 3) := by decide +kernel
theorem dX8_told_4 : decode cX8_told 4 = .ok (.iload_n 1, 1) := by decide +kernel
theorem dX8_told_5 : decode cX8_told 5 = .ok (.invokevirtual 194, 3) := by decide +kernel
theorem dX8_told_8 : decode cX8_told 8 = .ok (.ifCond .ne 5, 3) := by decide +kernel
theorem dX8_told_11 : decode cX8_told 11 = .ok (.iconst (-1), 1) := by decide +kernel
theorem dX8_told_12 : decode cX8_told 12 = .ok (.ireturn, 1) := by decide +kernel
theorem dX8_told_13 : decode cX8_told 13 = .ok (.aload_n 0, 1) := by decide +kernel
theorem dX8_told_14 : decode cX8_told 14 = .ok (.invokevirtual 197, 3) := by decide +kernel
theorem dX8_told_17 : decode cX8_told 17 = .ok (.aload_n 0, 1) := by decide +kernel
theorem dX8_told_18 : decode cX8_told 18 = .ok (.getfield 80, 3) := by decide +kernel
theorem dX8_told_21 : decode cX8_told 21 = .ok (.iload_n 1, 1) := by decide +kernel
theorem dX8_told_22 : decode cX8_told 22 = .ok (.invokestatic 200, 3) := by decide +kernel
theorem dX8_told_25 : decode cX8_told 25 = .ok (.ireturn, 1) := by decide +kernel
def fX8_told_0  (a0 : Nat) (x1 : Int32) (h : gz_H) : Option (Int32 × gz_H) :=
    gz_ck (gz_sh h a0 8 19) <|
    gz_br (h.2.2.2 a0 9) fun r_2 =>
    gz_ck (gz_sh h r_2 1 4) <|
    gz_b2 (fX1_hasGooseSet r_2 x1 h) fun y_4 h_3 =>
    if y_4 = 0 then (
     some ((-1 : Int32), h_3)
    ) else (
     gz_ck (gz_sh h_3 a0 8 19) <|
     gz_b2 (fX8_hearAll a0 h_3) fun _ h_7 =>
     gz_ck (gz_sh h_7 a0 8 19) <|
     gz_br (h_7.2.2.2 a0 12) fun r_11 =>
     gz_b2 (fX8_joined r_11 x1 h_7) fun y_13 h_12 =>
     some (y_13, h_12)
    )
set_option maxRecDepth 100000 in
set_option maxHeartbeats 1000000 in
theorem sX8_told_0 {G : gz_G} {d l0 s0 : Nat} {Q : Int32 → gz_H → Prop} (a0 : Nat) (x1 : Int32) (h : gz_H) (hf : gz_g (fX8_told_0  a0 x1 h) Q) : gz_Ok G mX8_told (d + 5, l0, s0, 0, 0) 0 [.ref a0, .int x1] [] h (gz_qi Q) := by
  unfold fX8_told_0 at hf
  refine gz_aload_n (pc := 0) dX8_told_0 rfl rfl ?_
  refine gz_gk hf (fun c_1 hf => ?_)
  refine gz_gb hf (fun r_2 er_2 hf => ?_)
  refine gz_getR (pc := 1) dX8_told_1 fl_RX8_70 rfl (gz_shs c_1) er_2 ?_
  refine gz_iload_n (pc := 4) dX8_told_4 rfl rfl ?_
  refine gz_gk hf (fun c_5 hf => ?_)
  refine gz_cVI (av := [.int x1]) (st := []) (pc := 5) dX8_told_5 kl_RX8_194 rfl (gz_shs c_5) rfl rfl (Nat.le_of_ble_eq_true rfl) (by show d + 4 + 0 + 1 ≤ d + 5; omega) (sX1_hasGooseSet (d := d + 4) (gz_gc hf)) (fun y_4 h_3 hf => ?_)
  refine gz_if_ne (tgt := 13) (pc := 8) dX8_told_8 rfl (fun c_6 => ?_) (fun c_6 => ?_)
  · have hf := gz_gF hf c_6
    refine gz_aload_n (pc := 13) dX8_told_13 rfl rfl ?_
    refine gz_gk hf (fun c_9 hf => ?_)
    refine gz_cVV (av := []) (st := []) (pc := 14) dX8_told_14 kl_RX8_197 rfl (gz_shs c_9) rfl rfl (Nat.le_of_ble_eq_true rfl) (by show d + 0 + 4 + 1 ≤ d + 5; omega) (sX8_hearAll (d := d + 0) (gz_gc hf)) (fun _ h_7 hf => ?_)
    refine gz_aload_n (pc := 17) dX8_told_17 rfl rfl ?_
    refine gz_gk hf (fun c_10 hf => ?_)
    refine gz_gb hf (fun r_11 er_11 hf => ?_)
    refine gz_getR (pc := 18) dX8_told_18 fl_RX8_80 rfl (gz_shs c_10) er_11 ?_
    refine gz_iload_n (pc := 21) dX8_told_21 rfl rfl ?_
    refine gz_cSI (av := [.ref r_11, .int x1]) (st := []) (pc := 22) dX8_told_22 kl_RX8_200 rfl rfl (Nat.le_of_ble_eq_true rfl) (by show d + 4 + 0 + 1 ≤ d + 5; omega) (sX8_joined (d := d + 4) (gz_gc hf)) (fun y_13 h_12 hf => ?_)
    exact gz_irt (pc := 25) dX8_told_25 rfl rfl hf
  · have hf := gz_gT hf c_6
    refine gz_iconst (v := (-1 : Int32)) (pc := 11) dX8_told_11 rfl ?_
    exact gz_irt (pc := 12) dX8_told_12 rfl rfl hf
def fX8_told (a0 : Nat) (x1 : Int32) (h : gz_H) : Option (Int32 × gz_H) := fX8_told_0 a0 x1 h
theorem sX8_told {G : gz_G} {d : Nat} {a0 : Nat} {x1 : Int32} {h : gz_H} {Q : Int32 → gz_H → Prop} (hf : gz_g (fX8_told a0 x1 h) Q) : gz_Cl G mX8_told (d + 5) 0 0 [.ref a0, .int x1] h (gz_qi Q) := gz_cl_of (lo := [.ref a0, .int x1]) (by decide) rfl rfl (Nat.le_of_ble_eq_true rfl) (sX8_told_0 a0 x1 h hf)
theorem dX8_whichHave_0 : decode cX8_whichHave 0 = .ok (.iconst 0, 1) := by decide +kernel
theorem dX8_whichHave_1 : decode cX8_whichHave 1 = .ok (.istore_n 2, 1) := by decide +kernel
theorem dX8_whichHave_2 : decode cX8_whichHave 2 = .ok (.iconst 0, 1) := by decide +kernel
theorem dX8_whichHave_3 : decode cX8_whichHave 3 = .ok (.istore_n 3, 1) := by decide +kernel
theorem dX8_whichHave_4 : decode cX8_whichHave 4 = .ok (.iload_n 3, 1) := by decide +kernel
theorem dX8_whichHave_5 : decode cX8_whichHave 5 = .ok (.aload_n 0, 1) := by decide +kernel
theorem dX8_whichHave_6 : decode cX8_whichHave 6 = .ok (.arraylength, 1) := by decide +kernel
theorem dX8_whichHave_7 : decode cX8_whichHave 7 = .ok (.if_icmp .ge 25, 3) := by decide +kernel
theorem dX8_whichHave_10 : decode cX8_whichHave 10 = .ok (.aload_n 0, 1) := by decide +kernel
theorem dX8_whichHave_11 : decode cX8_whichHave 11 = .ok (.iload_n 3, 1) := by decide +kernel
theorem dX8_whichHave_12 : decode cX8_whichHave 12 = .ok (.iaload, 1) := by decide +kernel
theorem dX8_whichHave_13 : decode cX8_whichHave 13 = .ok (.iload_n 1, 1) := by decide +kernel
theorem dX8_whichHave_14 : decode cX8_whichHave 14 = .ok (.ishr, 1) := by decide +kernel
theorem dX8_whichHave_15 : decode cX8_whichHave 15 = .ok (.iconst 1, 1) := by decide +kernel
theorem dX8_whichHave_16 : decode cX8_whichHave 16 = .ok (.iand, 1) := by decide +kernel
theorem dX8_whichHave_17 : decode cX8_whichHave 17 = .ok (.ifCond .eq 9, 3) := by decide +kernel
theorem dX8_whichHave_20 : decode cX8_whichHave 20 = .ok (.iload_n 2, 1) := by decide +kernel
theorem dX8_whichHave_21 : decode cX8_whichHave 21 = .ok (.iconst 1, 1) := by decide +kernel
theorem dX8_whichHave_22 : decode cX8_whichHave 22 = .ok (.iload_n 3, 1) := by decide +kernel
theorem dX8_whichHave_23 : decode cX8_whichHave 23 = .ok (.ishl, 1) := by decide +kernel
theorem dX8_whichHave_24 : decode cX8_whichHave 24 = .ok (.ior, 1) := by decide +kernel
theorem dX8_whichHave_25 : decode cX8_whichHave 25 = .ok (.istore_n 2, 1) := by decide +kernel
theorem dX8_whichHave_26 : decode cX8_whichHave 26 = .ok (.iinc 3 1, 3) := by decide +kernel
theorem dX8_whichHave_29 : decode cX8_whichHave 29 = .ok (.goto (-25), 3) := by decide +kernel
theorem dX8_whichHave_32 : decode cX8_whichHave 32 = .ok (.iload_n 2, 1) := by decide +kernel
theorem dX8_whichHave_33 : decode cX8_whichHave 33 = .ok (.ireturn, 1) := by decide +kernel
def fX8_whichHave_26 (k4 : Nat → Int32 → Int32 → Int32 → gz_H → Option (Int32 × gz_H)) (a0 : Nat) (x1 : Int32) (x2 : Int32) (x3 : Int32) (h : gz_H) : Option (Int32 × gz_H) :=
    k4 a0 x1 x2 (x3 + 1) h
set_option maxRecDepth 100000 in
set_option maxHeartbeats 1000000 in
theorem sX8_whichHave_26 {G : gz_G} {d l0 s0 : Nat} {Q : Int32 → gz_H → Prop} {k4 : Nat → Int32 → Int32 → Int32 → gz_H → Option (Int32 × gz_H)} (hk4 : ∀ (a0 : Nat) (x1 : Int32) (x2 : Int32) (x3 : Int32) (h : gz_H), gz_g (k4 a0 x1 x2 x3 h) Q → gz_Ok G mX8_whichHave (d + 0, l0, s0, 0, 0) 4 [.ref a0, .int x1, .int x2, .int x3] [] h (gz_qi Q)) (a0 : Nat) (x1 : Int32) (x2 : Int32) (x3 : Int32) (h : gz_H) (hf : gz_g (fX8_whichHave_26 k4 a0 x1 x2 x3 h) Q) : gz_Ok G mX8_whichHave (d + 0, l0, s0, 0, 0) 26 [.ref a0, .int x1, .int x2, .int x3] [] h (gz_qi Q) := by
  unfold fX8_whichHave_26 at hf
  refine gz_iinc (v := x3 + 1) (lv := [.ref a0, .int x1, .int x2, .int (x3 + 1)]) (pc := 26) dX8_whichHave_26 rfl rfl (by decide) rfl ?_
  refine gz_goto (tgt := 4) (pc := 29) dX8_whichHave_29 rfl ?_
  exact hk4 a0 x1 x2 (x3 + 1) h hf
def fX8_whichHave_4  : Nat → Nat → Int32 → Int32 → Int32 → gz_H → Option (Int32 × gz_H)
  | 0, _, _, _, _, _ => none
  | n + 1, a0, x1, x2, x3, h =>
    gz_bi (gz_len h a0) fun y_1 =>
    if y_1 ≤ x3 then (
     some (x2, h)
    ) else (
     gz_ck (gz_inb h a0 10 x3) <|
     if (((h.2.1 a0 x3.toNatClampNeg) >>> (x1 &&& 31)) &&& (1 : Int32)) = 0 then (
      fX8_whichHave_26 (fun z0 z1 z2 z3 zh => fX8_whichHave_4 n z0 z1 z2 z3 zh) a0 x1 x2 x3 h
     ) else (
      fX8_whichHave_26 (fun z0 z1 z2 z3 zh => fX8_whichHave_4 n z0 z1 z2 z3 zh) a0 x1 (x2 ||| ((1 : Int32) <<< (x3 &&& 31))) x3 h
     )
    )
set_option maxRecDepth 100000 in
set_option maxHeartbeats 1000000 in
theorem sX8_whichHave_4 {G : gz_G} {d l0 s0 : Nat} {Q : Int32 → gz_H → Prop} : ∀ (n : Nat) (a0 : Nat) (x1 : Int32) (x2 : Int32) (x3 : Int32) (h : gz_H), gz_g (fX8_whichHave_4  n a0 x1 x2 x3 h) Q → gz_Ok G mX8_whichHave (d + 0, l0, s0, 0, 0) 4 [.ref a0, .int x1, .int x2, .int x3] [] h (gz_qi Q) := by
  intro n
  induction n with
  | zero => intro a0 x1 x2 x3 h hf; exact False.elim hf
  | succ n ih =>
    intro a0 x1 x2 x3 h hf
    rw [fX8_whichHave_4] at hf
    refine gz_iload_n (pc := 4) dX8_whichHave_4 rfl rfl ?_
    refine gz_aload_n (pc := 5) dX8_whichHave_5 rfl rfl ?_
    refine gz_gi hf (fun y_1 ey_1 hf => ?_)
    refine gz_alen (pc := 6) dX8_whichHave_6 ey_1 ?_
    refine gz_icmp_ge (tgt := 32) (pc := 7) dX8_whichHave_7 rfl (fun c_2 => ?_) (fun c_2 => ?_)
    · have hf := gz_gT hf c_2
      refine gz_iload_n (pc := 32) dX8_whichHave_32 rfl rfl ?_
      exact gz_irt (pc := 33) dX8_whichHave_33 rfl rfl hf
    · have hf := gz_gF hf c_2
      refine gz_aload_n (pc := 10) dX8_whichHave_10 rfl rfl ?_
      refine gz_iload_n (pc := 11) dX8_whichHave_11 rfl rfl ?_
      refine gz_gk hf (fun c_3 hf => ?_)
      refine gz_iald (pc := 12) dX8_whichHave_12 c_3 ?_
      refine gz_iload_n (pc := 13) dX8_whichHave_13 rfl rfl ?_
      refine gz_ishr (pc := 14) dX8_whichHave_14 ?_
      refine gz_iconst (v := (1 : Int32)) (pc := 15) dX8_whichHave_15 rfl ?_
      refine gz_iand (pc := 16) dX8_whichHave_16 ?_
      refine gz_if_eq (tgt := 26) (pc := 17) dX8_whichHave_17 rfl (fun c_4 => ?_) (fun c_4 => ?_)
      · have hf := gz_gT hf c_4
        exact sX8_whichHave_26 ih a0 x1 x2 x3 h hf
      · have hf := gz_gF hf c_4
        refine gz_iload_n (pc := 20) dX8_whichHave_20 rfl rfl ?_
        refine gz_iconst (v := (1 : Int32)) (pc := 21) dX8_whichHave_21 rfl ?_
        refine gz_iload_n (pc := 22) dX8_whichHave_22 rfl rfl ?_
        refine gz_ishl (pc := 23) dX8_whichHave_23 ?_
        refine gz_ior (pc := 24) dX8_whichHave_24 ?_
        refine gz_istore_n (lv := [.ref a0, .int x1, .int (x2 ||| ((1 : Int32) <<< (x3 &&& 31))), .int x3]) (pc := 25) dX8_whichHave_25 rfl (by decide) rfl ?_
        exact sX8_whichHave_26 ih a0 x1 (x2 ||| ((1 : Int32) <<< (x3 &&& 31))) x3 h hf
def fX8_whichHave_0  (a0 : Nat) (x1 : Int32) (h : gz_H) : Option (Int32 × gz_H) :=
    fX8_whichHave_4 gz_fu a0 x1 (0 : Int32) (0 : Int32) h
set_option maxRecDepth 100000 in
set_option maxHeartbeats 1000000 in
theorem sX8_whichHave_0 {G : gz_G} {d l0 s0 : Nat} {Q : Int32 → gz_H → Prop} (a0 : Nat) (x1 : Int32) (h : gz_H) (hf : gz_g (fX8_whichHave_0  a0 x1 h) Q) : gz_Ok G mX8_whichHave (d + 0, l0, s0, 0, 0) 0 [.ref a0, .int x1, .retAddr 0, .retAddr 0] [] h (gz_qi Q) := by
  unfold fX8_whichHave_0 at hf
  refine gz_iconst (v := (0 : Int32)) (pc := 0) dX8_whichHave_0 rfl ?_
  refine gz_istore_n (lv := [.ref a0, .int x1, .int (0 : Int32), .retAddr 0]) (pc := 1) dX8_whichHave_1 rfl (by decide) rfl ?_
  refine gz_iconst (v := (0 : Int32)) (pc := 2) dX8_whichHave_2 rfl ?_
  refine gz_istore_n (lv := [.ref a0, .int x1, .int (0 : Int32), .int (0 : Int32)]) (pc := 3) dX8_whichHave_3 rfl (by decide) rfl ?_
  exact sX8_whichHave_4 gz_fu a0 x1 (0 : Int32) (0 : Int32) h hf
def fX8_whichHave (a0 : Nat) (x1 : Int32) (h : gz_H) : Option (Int32 × gz_H) := fX8_whichHave_0 a0 x1 h
theorem sX8_whichHave {G : gz_G} {d : Nat} {a0 : Nat} {x1 : Int32} {h : gz_H} {Q : Int32 → gz_H → Prop} (hf : gz_g (fX8_whichHave a0 x1 h) Q) : gz_Cl G mX8_whichHave (d + 0) 0 0 [.ref a0, .int x1] h (gz_qi Q) := gz_cl_of (lo := [.ref a0, .int x1, .retAddr 0, .retAddr 0]) (by decide) rfl rfl (Nat.le_of_ble_eq_true rfl) (sX8_whichHave_0 a0 x1 h hf)
theorem dX8_holders_0 : decode cX8_holders 0 = .ok (.aload_n 0, 1) := by decide +kernel
theorem dX8_holders_1 : decode cX8_holders 1 = .ok (.getfield 70, 3) := by decide +kernel
theorem dX8_holders_4 : decode cX8_holders 4 = .ok (.iload_n 1, 1) := by decide +kernel
theorem dX8_holders_5 : decode cX8_holders 5 = .ok (.invokevirtual 169, 3) := by decide +kernel
theorem dX8_holders_8 : decode cX8_holders 8 = .ok (.ifCond .ne 5, 3) := by decide +kernel
theorem dX8_holders_11 : decode cX8_holders 11 = .ok (.iconst (-1), 1) := by decide +kernel
theorem dX8_holders_12 : decode cX8_holders 12 = .ok (.ireturn, 1) := by decide +kernel
theorem dX8_holders_13 : decode cX8_holders 13 = .ok (.aload_n 0, 1) := by decide +kernel
theorem dX8_holders_14 : decode cX8_holders 14 = .ok (.invokevirtual 197, 3) := by decide +kernel
theorem dX8_holders_17 : decode cX8_holders 17 = .ok (.aload_n 0, 1) := by decide +kernel
theorem dX8_holders_18 : decode cX8_holders 18 = .ok (.aload_n 0, 1) := by decide +kernel
theorem dX8_holders_19 : decode cX8_holders 19 = .ok (.getfield 80, 3) := by decide +kernel
theorem dX8_holders_22 : decode cX8_holders 22 = .ok (.iload_n 1, 1) := by decide +kernel
theorem dX8_holders_23 : decode cX8_holders 23 = .ok (.invokestatic 204, 3) := by decide +kernel
theorem dX8_holders_26 : decode cX8_holders 26 = .ok (.putfield 115, 3) := by decide +kernel
theorem dX8_holders_29 : decode cX8_holders 29 = .ok (.aload_n 0, 1) := by decide +kernel
theorem dX8_holders_30 : decode cX8_holders 30 = .ok (.getfield 70, 3) := by decide +kernel
theorem dX8_holders_33 : decode cX8_holders 33 = .ok (.iload_n 1, 1) := by decide +kernel
theorem dX8_holders_34 : decode cX8_holders 34 = .ok (.invokevirtual 207, 3) := by decide +kernel
theorem dX8_holders_37 : decode cX8_holders 37 = .ok (.ireturn, 1) := by decide +kernel
def fX8_holders_0  (a0 : Nat) (x1 : Int32) (h : gz_H) : Option (Int32 × gz_H) :=
    gz_ck (gz_sh h a0 8 19) <|
    gz_br (h.2.2.2 a0 9) fun r_2 =>
    gz_ck (gz_sh h r_2 1 4) <|
    gz_b2 (fX1_hasFact r_2 x1 h) fun y_4 h_3 =>
    if y_4 = 0 then (
     some ((-1 : Int32), h_3)
    ) else (
     gz_ck (gz_sh h_3 a0 8 19) <|
     gz_b2 (fX8_hearAll a0 h_3) fun _ h_7 =>
     gz_ck (gz_sh h_7 a0 8 19) <|
     gz_br (h_7.2.2.2 a0 12) fun r_11 =>
     gz_b2 (fX8_whichHave r_11 x1 h_7) fun y_13 h_12 =>
     gz_ck (gz_sh h_12 a0 8 19) <|
     gz_lt (uI h_12 a0 18 y_13) fun h_15 =>
     gz_ck (gz_sh h_15 a0 8 19) <|
     gz_br (h_15.2.2.2 a0 9) fun r_17 =>
     gz_ck (gz_sh h_15 r_17 1 4) <|
     gz_b2 (fX1_holdersOf r_17 x1 h_15) fun y_19 h_18 =>
     some (y_19, h_18)
    )
set_option maxRecDepth 100000 in
set_option maxHeartbeats 1000000 in
theorem sX8_holders_0 {G : gz_G} {d l0 s0 : Nat} {Q : Int32 → gz_H → Prop} (a0 : Nat) (x1 : Int32) (h : gz_H) (hf : gz_g (fX8_holders_0  a0 x1 h) Q) : gz_Ok G mX8_holders (d + 5, l0, s0, 0, 0) 0 [.ref a0, .int x1] [] h (gz_qi Q) := by
  unfold fX8_holders_0 at hf
  refine gz_aload_n (pc := 0) dX8_holders_0 rfl rfl ?_
  refine gz_gk hf (fun c_1 hf => ?_)
  refine gz_gb hf (fun r_2 er_2 hf => ?_)
  refine gz_getR (pc := 1) dX8_holders_1 fl_RX8_70 rfl (gz_shs c_1) er_2 ?_
  refine gz_iload_n (pc := 4) dX8_holders_4 rfl rfl ?_
  refine gz_gk hf (fun c_5 hf => ?_)
  refine gz_cVI (av := [.int x1]) (st := []) (pc := 5) dX8_holders_5 kl_RX8_169 rfl (gz_shs c_5) rfl rfl (Nat.le_of_ble_eq_true rfl) (by show d + 4 + 0 + 1 ≤ d + 5; omega) (sX1_hasFact (d := d + 4) (gz_gc hf)) (fun y_4 h_3 hf => ?_)
  refine gz_if_ne (tgt := 13) (pc := 8) dX8_holders_8 rfl (fun c_6 => ?_) (fun c_6 => ?_)
  · have hf := gz_gF hf c_6
    refine gz_aload_n (pc := 13) dX8_holders_13 rfl rfl ?_
    refine gz_gk hf (fun c_9 hf => ?_)
    refine gz_cVV (av := []) (st := []) (pc := 14) dX8_holders_14 kl_RX8_197 rfl (gz_shs c_9) rfl rfl (Nat.le_of_ble_eq_true rfl) (by show d + 0 + 4 + 1 ≤ d + 5; omega) (sX8_hearAll (d := d + 0) (gz_gc hf)) (fun _ h_7 hf => ?_)
    refine gz_aload_n (pc := 17) dX8_holders_17 rfl rfl ?_
    refine gz_aload_n (pc := 18) dX8_holders_18 rfl rfl ?_
    refine gz_gk hf (fun c_10 hf => ?_)
    refine gz_gb hf (fun r_11 er_11 hf => ?_)
    refine gz_getR (pc := 19) dX8_holders_19 fl_RX8_80 rfl (gz_shs c_10) er_11 ?_
    refine gz_iload_n (pc := 22) dX8_holders_22 rfl rfl ?_
    refine gz_cSI (av := [.ref r_11, .int x1]) (st := [.ref a0]) (pc := 23) dX8_holders_23 kl_RX8_204 rfl rfl (Nat.le_of_ble_eq_true rfl) (by show d + 4 + 0 + 1 ≤ d + 5; omega) (sX8_whichHave (d := d + 4) (gz_gc hf)) (fun y_13 h_12 hf => ?_)
    refine gz_gk hf (fun c_14 hf => ?_)
    refine gz_putI (pc := 26) dX8_holders_26 fw_X8_holders_115 rfl rfl rfl (gz_shs c_14) ?_
    refine gz_nmH (fun h_15 eh_15 => ?_)
    have hf := gz_gl eh_15 hf
    refine gz_aload_n (pc := 29) dX8_holders_29 rfl rfl ?_
    refine gz_gk hf (fun c_16 hf => ?_)
    refine gz_gb hf (fun r_17 er_17 hf => ?_)
    refine gz_getR (pc := 30) dX8_holders_30 fl_RX8_70 rfl (gz_shs c_16) er_17 ?_
    refine gz_iload_n (pc := 33) dX8_holders_33 rfl rfl ?_
    refine gz_gk hf (fun c_20 hf => ?_)
    refine gz_cVI (av := [.int x1]) (st := []) (pc := 34) dX8_holders_34 kl_RX8_207 rfl (gz_shs c_20) rfl rfl (Nat.le_of_ble_eq_true rfl) (by show d + 2 + 2 + 1 ≤ d + 5; omega) (sX1_holdersOf (d := d + 2) (gz_gc hf)) (fun y_19 h_18 hf => ?_)
    exact gz_irt (pc := 37) dX8_holders_37 rfl rfl hf
  · have hf := gz_gT hf c_6
    refine gz_iconst (v := (-1 : Int32)) (pc := 11) dX8_holders_11 rfl ?_
    exact gz_irt (pc := 12) dX8_holders_12 rfl rfl hf
def fX8_holders (a0 : Nat) (x1 : Int32) (h : gz_H) : Option (Int32 × gz_H) := fX8_holders_0 a0 x1 h
theorem sX8_holders {G : gz_G} {d : Nat} {a0 : Nat} {x1 : Int32} {h : gz_H} {Q : Int32 → gz_H → Prop} (hf : gz_g (fX8_holders a0 x1 h) Q) : gz_Cl G mX8_holders (d + 5) 0 0 [.ref a0, .int x1] h (gz_qi Q) := gz_cl_of (lo := [.ref a0, .int x1]) (by decide) rfl rfl (Nat.le_of_ble_eq_true rfl) (sX8_holders_0 a0 x1 h hf)
theorem dJ6_numberOfTrailingZeros_0f7a4_0 : decode cJ6_numberOfTrailingZeros_0f7a4 0 = .ok (.iload_n 0, 1) := by decide +kernel
theorem dJ6_numberOfTrailingZeros_0f7a4_1 : decode cJ6_numberOfTrailingZeros_0f7a4 1 = .ok (.iconst (-1), 1) := by decide +kernel
theorem dJ6_numberOfTrailingZeros_0f7a4_2 : decode cJ6_numberOfTrailingZeros_0f7a4 2 = .ok (.ixor, 1) := by decide +kernel
theorem dJ6_numberOfTrailingZeros_0f7a4_3 : decode cJ6_numberOfTrailingZeros_0f7a4 3 = .ok (.iload_n 0, 1) := by decide +kernel
theorem dJ6_numberOfTrailingZeros_0f7a4_4 : decode cJ6_numberOfTrailingZeros_0f7a4 4 = .ok (.iconst 1, 1) := by decide +kernel
theorem dJ6_numberOfTrailingZeros_0f7a4_5 : decode cJ6_numberOfTrailingZeros_0f7a4 5 = .ok (.isub, 1) := by decide +kernel
theorem dJ6_numberOfTrailingZeros_0f7a4_6 : decode cJ6_numberOfTrailingZeros_0f7a4 6 = .ok (.iand, 1) := by decide +kernel
theorem dJ6_numberOfTrailingZeros_0f7a4_7 : decode cJ6_numberOfTrailingZeros_0f7a4 7 = .ok (.istore_n 0, 1) := by decide +kernel
theorem dJ6_numberOfTrailingZeros_0f7a4_8 : decode cJ6_numberOfTrailingZeros_0f7a4 8 = .ok (.iload_n 0, 1) := by decide +kernel
theorem dJ6_numberOfTrailingZeros_0f7a4_9 : decode cJ6_numberOfTrailingZeros_0f7a4 9 = .ok (.ifCond .gt 8, 3) := by decide +kernel
theorem dJ6_numberOfTrailingZeros_0f7a4_12 : decode cJ6_numberOfTrailingZeros_0f7a4 12 = .ok (.iload_n 0, 1) := by decide +kernel
theorem dJ6_numberOfTrailingZeros_0f7a4_13 : decode cJ6_numberOfTrailingZeros_0f7a4 13 = .ok (.bipush 32, 2) := by decide +kernel
theorem dJ6_numberOfTrailingZeros_0f7a4_15 : decode cJ6_numberOfTrailingZeros_0f7a4 15 = .ok (.iand, 1) := by decide +kernel
theorem dJ6_numberOfTrailingZeros_0f7a4_16 : decode cJ6_numberOfTrailingZeros_0f7a4 16 = .ok (.ireturn, 1) := by decide +kernel
theorem dJ6_numberOfTrailingZeros_0f7a4_17 : decode cJ6_numberOfTrailingZeros_0f7a4 17 = .ok (.iconst 1, 1) := by decide +kernel
theorem dJ6_numberOfTrailingZeros_0f7a4_18 : decode cJ6_numberOfTrailingZeros_0f7a4 18 = .ok (.istore_n 1, 1) := by decide +kernel
theorem dJ6_numberOfTrailingZeros_0f7a4_19 : decode cJ6_numberOfTrailingZeros_0f7a4 19 = .ok (.iload_n 0, 1) := by decide +kernel
theorem dJ6_numberOfTrailingZeros_0f7a4_20 : decode cJ6_numberOfTrailingZeros_0f7a4 20 = .ok (.ldc_w 264, 3) := by decide +kernel
theorem dJ6_numberOfTrailingZeros_0f7a4_23 : decode cJ6_numberOfTrailingZeros_0f7a4 23 = .ok (.if_icmp .le 11, 3) := by decide +kernel
theorem dJ6_numberOfTrailingZeros_0f7a4_26 : decode cJ6_numberOfTrailingZeros_0f7a4 26 = .ok (.iinc 1 16, 3) := by decide +kernel
theorem dJ6_numberOfTrailingZeros_0f7a4_29 : decode cJ6_numberOfTrailingZeros_0f7a4 29 = .ok (.iload_n 0, 1) := by decide +kernel
theorem dJ6_numberOfTrailingZeros_0f7a4_30 : decode cJ6_numberOfTrailingZeros_0f7a4 30 = .ok (.bipush 16, 2) := by decide +kernel
theorem dJ6_numberOfTrailingZeros_0f7a4_32 : decode cJ6_numberOfTrailingZeros_0f7a4 32 = .ok (.iushr, 1) := by decide +kernel
theorem dJ6_numberOfTrailingZeros_0f7a4_33 : decode cJ6_numberOfTrailingZeros_0f7a4 33 = .ok (.istore_n 0, 1) := by decide +kernel
theorem dJ6_numberOfTrailingZeros_0f7a4_34 : decode cJ6_numberOfTrailingZeros_0f7a4 34 = .ok (.iload_n 0, 1) := by decide +kernel
theorem dJ6_numberOfTrailingZeros_0f7a4_35 : decode cJ6_numberOfTrailingZeros_0f7a4 35 = .ok (.sipush 256, 3) := by decide +kernel
theorem dJ6_numberOfTrailingZeros_0f7a4_38 : decode cJ6_numberOfTrailingZeros_0f7a4 38 = .ok (.if_icmp .le 11, 3) := by decide +kernel
theorem dJ6_numberOfTrailingZeros_0f7a4_41 : decode cJ6_numberOfTrailingZeros_0f7a4 41 = .ok (.iinc 1 8, 3) := by decide +kernel
theorem dJ6_numberOfTrailingZeros_0f7a4_44 : decode cJ6_numberOfTrailingZeros_0f7a4 44 = .ok (.iload_n 0, 1) := by decide +kernel
theorem dJ6_numberOfTrailingZeros_0f7a4_45 : decode cJ6_numberOfTrailingZeros_0f7a4 45 = .ok (.bipush 8, 2) := by decide +kernel
theorem dJ6_numberOfTrailingZeros_0f7a4_47 : decode cJ6_numberOfTrailingZeros_0f7a4 47 = .ok (.iushr, 1) := by decide +kernel
theorem dJ6_numberOfTrailingZeros_0f7a4_48 : decode cJ6_numberOfTrailingZeros_0f7a4 48 = .ok (.istore_n 0, 1) := by decide +kernel
theorem dJ6_numberOfTrailingZeros_0f7a4_49 : decode cJ6_numberOfTrailingZeros_0f7a4 49 = .ok (.iload_n 0, 1) := by decide +kernel
theorem dJ6_numberOfTrailingZeros_0f7a4_50 : decode cJ6_numberOfTrailingZeros_0f7a4 50 = .ok (.bipush 16, 2) := by decide +kernel
theorem dJ6_numberOfTrailingZeros_0f7a4_52 : decode cJ6_numberOfTrailingZeros_0f7a4 52 = .ok (.if_icmp .le 10, 3) := by decide +kernel
theorem dJ6_numberOfTrailingZeros_0f7a4_55 : decode cJ6_numberOfTrailingZeros_0f7a4 55 = .ok (.iinc 1 4, 3) := by decide +kernel
theorem dJ6_numberOfTrailingZeros_0f7a4_58 : decode cJ6_numberOfTrailingZeros_0f7a4 58 = .ok (.iload_n 0, 1) := by decide +kernel
theorem dJ6_numberOfTrailingZeros_0f7a4_59 : decode cJ6_numberOfTrailingZeros_0f7a4 59 = .ok (.iconst 4, 1) := by decide +kernel
theorem dJ6_numberOfTrailingZeros_0f7a4_60 : decode cJ6_numberOfTrailingZeros_0f7a4 60 = .ok (.iushr, 1) := by decide +kernel
theorem dJ6_numberOfTrailingZeros_0f7a4_61 : decode cJ6_numberOfTrailingZeros_0f7a4 61 = .ok (.istore_n 0, 1) := by decide +kernel
theorem dJ6_numberOfTrailingZeros_0f7a4_62 : decode cJ6_numberOfTrailingZeros_0f7a4 62 = .ok (.iload_n 0, 1) := by decide +kernel
theorem dJ6_numberOfTrailingZeros_0f7a4_63 : decode cJ6_numberOfTrailingZeros_0f7a4 63 = .ok (.iconst 4, 1) := by decide +kernel
theorem dJ6_numberOfTrailingZeros_0f7a4_64 : decode cJ6_numberOfTrailingZeros_0f7a4 64 = .ok (.if_icmp .le 10, 3) := by decide +kernel
theorem dJ6_numberOfTrailingZeros_0f7a4_67 : decode cJ6_numberOfTrailingZeros_0f7a4 67 = .ok (.iinc 1 2, 3) := by decide +kernel
theorem dJ6_numberOfTrailingZeros_0f7a4_70 : decode cJ6_numberOfTrailingZeros_0f7a4 70 = .ok (.iload_n 0, 1) := by decide +kernel
theorem dJ6_numberOfTrailingZeros_0f7a4_71 : decode cJ6_numberOfTrailingZeros_0f7a4 71 = .ok (.iconst 2, 1) := by decide +kernel
theorem dJ6_numberOfTrailingZeros_0f7a4_72 : decode cJ6_numberOfTrailingZeros_0f7a4 72 = .ok (.iushr, 1) := by decide +kernel
theorem dJ6_numberOfTrailingZeros_0f7a4_73 : decode cJ6_numberOfTrailingZeros_0f7a4 73 = .ok (.istore_n 0, 1) := by decide +kernel
theorem dJ6_numberOfTrailingZeros_0f7a4_74 : decode cJ6_numberOfTrailingZeros_0f7a4 74 = .ok (.iload_n 1, 1) := by decide +kernel
theorem dJ6_numberOfTrailingZeros_0f7a4_75 : decode cJ6_numberOfTrailingZeros_0f7a4 75 = .ok (.iload_n 0, 1) := by decide +kernel
theorem dJ6_numberOfTrailingZeros_0f7a4_76 : decode cJ6_numberOfTrailingZeros_0f7a4 76 = .ok (.iconst 1, 1) := by decide +kernel
theorem dJ6_numberOfTrailingZeros_0f7a4_77 : decode cJ6_numberOfTrailingZeros_0f7a4 77 = .ok (.iushr, 1) := by decide +kernel
theorem dJ6_numberOfTrailingZeros_0f7a4_78 : decode cJ6_numberOfTrailingZeros_0f7a4 78 = .ok (.iadd, 1) := by decide +kernel
theorem dJ6_numberOfTrailingZeros_0f7a4_79 : decode cJ6_numberOfTrailingZeros_0f7a4 79 = .ok (.ireturn, 1) := by decide +kernel
def fJ6_numberOfTrailingZeros_0f7a4_74  (x0 : Int32) (x1 : Int32) (h : gz_H) : Option (Int32 × gz_H) :=
    some (x1 + ((x0.toUInt32 >>> ((1 : Int32).toUInt32 &&& Int32.toUInt32 31)).toInt32), h)
set_option maxRecDepth 100000 in
set_option maxHeartbeats 1000000 in
theorem sJ6_numberOfTrailingZeros_0f7a4_74 {G : gz_G} {d l0 s0 : Nat} {Q : Int32 → gz_H → Prop} (x0 : Int32) (x1 : Int32) (h : gz_H) (hf : gz_g (fJ6_numberOfTrailingZeros_0f7a4_74  x0 x1 h) Q) : gz_Ok G mJ6_numberOfTrailingZeros_0f7a4 (d + 0, l0, s0, 0, 0) 74 [.int x0, .int x1] [] h (gz_qi Q) := by
  unfold fJ6_numberOfTrailingZeros_0f7a4_74 at hf
  refine gz_iload_n (pc := 74) dJ6_numberOfTrailingZeros_0f7a4_74 rfl rfl ?_
  refine gz_iload_n (pc := 75) dJ6_numberOfTrailingZeros_0f7a4_75 rfl rfl ?_
  refine gz_iconst (v := (1 : Int32)) (pc := 76) dJ6_numberOfTrailingZeros_0f7a4_76 rfl ?_
  refine gz_iushr (pc := 77) dJ6_numberOfTrailingZeros_0f7a4_77 ?_
  refine gz_iadd (pc := 78) dJ6_numberOfTrailingZeros_0f7a4_78 ?_
  exact gz_irt (pc := 79) dJ6_numberOfTrailingZeros_0f7a4_79 rfl rfl hf
def fJ6_numberOfTrailingZeros_0f7a4_62  (x0 : Int32) (x1 : Int32) (h : gz_H) : Option (Int32 × gz_H) :=
    if x0 ≤ (4 : Int32) then (
     fJ6_numberOfTrailingZeros_0f7a4_74 x0 x1 h
    ) else (
     gz_lt ((x0.toUInt32 >>> ((2 : Int32).toUInt32 &&& Int32.toUInt32 31)).toInt32) fun (y_2 : Int32) =>
     fJ6_numberOfTrailingZeros_0f7a4_74 y_2 (x1 + 2) h
    )
set_option maxRecDepth 100000 in
set_option maxHeartbeats 1000000 in
theorem sJ6_numberOfTrailingZeros_0f7a4_62 {G : gz_G} {d l0 s0 : Nat} {Q : Int32 → gz_H → Prop} (x0 : Int32) (x1 : Int32) (h : gz_H) (hf : gz_g (fJ6_numberOfTrailingZeros_0f7a4_62  x0 x1 h) Q) : gz_Ok G mJ6_numberOfTrailingZeros_0f7a4 (d + 0, l0, s0, 0, 0) 62 [.int x0, .int x1] [] h (gz_qi Q) := by
  unfold fJ6_numberOfTrailingZeros_0f7a4_62 at hf
  refine gz_iload_n (pc := 62) dJ6_numberOfTrailingZeros_0f7a4_62 rfl rfl ?_
  refine gz_iconst (v := (4 : Int32)) (pc := 63) dJ6_numberOfTrailingZeros_0f7a4_63 rfl ?_
  refine gz_icmp_le (tgt := 74) (pc := 64) dJ6_numberOfTrailingZeros_0f7a4_64 rfl (fun c_1 => ?_) (fun c_1 => ?_)
  · have hf := gz_gT hf c_1
    exact sJ6_numberOfTrailingZeros_0f7a4_74 x0 x1 h hf
  · have hf := gz_gF hf c_1
    refine gz_iinc (v := x1 + 2) (lv := [.int x0, .int (x1 + 2)]) (pc := 67) dJ6_numberOfTrailingZeros_0f7a4_67 rfl rfl (by decide) rfl ?_
    refine gz_iload_n (pc := 70) dJ6_numberOfTrailingZeros_0f7a4_70 rfl rfl ?_
    refine gz_iconst (v := (2 : Int32)) (pc := 71) dJ6_numberOfTrailingZeros_0f7a4_71 rfl ?_
    refine gz_iushr (pc := 72) dJ6_numberOfTrailingZeros_0f7a4_72 ?_
    refine gz_nmI (fun y_2 ey_2 => ?_)
    have hf := gz_gl ey_2 hf
    refine gz_istore_n (lv := [.int y_2, .int (x1 + 2)]) (pc := 73) dJ6_numberOfTrailingZeros_0f7a4_73 rfl (by decide) rfl ?_
    exact sJ6_numberOfTrailingZeros_0f7a4_74 y_2 (x1 + 2) h hf
def fJ6_numberOfTrailingZeros_0f7a4_49  (x0 : Int32) (x1 : Int32) (h : gz_H) : Option (Int32 × gz_H) :=
    if x0 ≤ (16 : Int32) then (
     fJ6_numberOfTrailingZeros_0f7a4_62 x0 x1 h
    ) else (
     gz_lt ((x0.toUInt32 >>> ((4 : Int32).toUInt32 &&& Int32.toUInt32 31)).toInt32) fun (y_2 : Int32) =>
     fJ6_numberOfTrailingZeros_0f7a4_62 y_2 (x1 + 4) h
    )
set_option maxRecDepth 100000 in
set_option maxHeartbeats 1000000 in
theorem sJ6_numberOfTrailingZeros_0f7a4_49 {G : gz_G} {d l0 s0 : Nat} {Q : Int32 → gz_H → Prop} (x0 : Int32) (x1 : Int32) (h : gz_H) (hf : gz_g (fJ6_numberOfTrailingZeros_0f7a4_49  x0 x1 h) Q) : gz_Ok G mJ6_numberOfTrailingZeros_0f7a4 (d + 0, l0, s0, 0, 0) 49 [.int x0, .int x1] [] h (gz_qi Q) := by
  unfold fJ6_numberOfTrailingZeros_0f7a4_49 at hf
  refine gz_iload_n (pc := 49) dJ6_numberOfTrailingZeros_0f7a4_49 rfl rfl ?_
  refine gz_bipush (v := (16 : Int32)) (pc := 50) dJ6_numberOfTrailingZeros_0f7a4_50 rfl ?_
  refine gz_icmp_le (tgt := 62) (pc := 52) dJ6_numberOfTrailingZeros_0f7a4_52 rfl (fun c_1 => ?_) (fun c_1 => ?_)
  · have hf := gz_gT hf c_1
    exact sJ6_numberOfTrailingZeros_0f7a4_62 x0 x1 h hf
  · have hf := gz_gF hf c_1
    refine gz_iinc (v := x1 + 4) (lv := [.int x0, .int (x1 + 4)]) (pc := 55) dJ6_numberOfTrailingZeros_0f7a4_55 rfl rfl (by decide) rfl ?_
    refine gz_iload_n (pc := 58) dJ6_numberOfTrailingZeros_0f7a4_58 rfl rfl ?_
    refine gz_iconst (v := (4 : Int32)) (pc := 59) dJ6_numberOfTrailingZeros_0f7a4_59 rfl ?_
    refine gz_iushr (pc := 60) dJ6_numberOfTrailingZeros_0f7a4_60 ?_
    refine gz_nmI (fun y_2 ey_2 => ?_)
    have hf := gz_gl ey_2 hf
    refine gz_istore_n (lv := [.int y_2, .int (x1 + 4)]) (pc := 61) dJ6_numberOfTrailingZeros_0f7a4_61 rfl (by decide) rfl ?_
    exact sJ6_numberOfTrailingZeros_0f7a4_62 y_2 (x1 + 4) h hf
def fJ6_numberOfTrailingZeros_0f7a4_34  (x0 : Int32) (x1 : Int32) (h : gz_H) : Option (Int32 × gz_H) :=
    if x0 ≤ (256 : Int32) then (
     fJ6_numberOfTrailingZeros_0f7a4_49 x0 x1 h
    ) else (
     gz_lt ((x0.toUInt32 >>> ((8 : Int32).toUInt32 &&& Int32.toUInt32 31)).toInt32) fun (y_2 : Int32) =>
     fJ6_numberOfTrailingZeros_0f7a4_49 y_2 (x1 + 8) h
    )
set_option maxRecDepth 100000 in
set_option maxHeartbeats 1000000 in
theorem sJ6_numberOfTrailingZeros_0f7a4_34 {G : gz_G} {d l0 s0 : Nat} {Q : Int32 → gz_H → Prop} (x0 : Int32) (x1 : Int32) (h : gz_H) (hf : gz_g (fJ6_numberOfTrailingZeros_0f7a4_34  x0 x1 h) Q) : gz_Ok G mJ6_numberOfTrailingZeros_0f7a4 (d + 0, l0, s0, 0, 0) 34 [.int x0, .int x1] [] h (gz_qi Q) := by
  unfold fJ6_numberOfTrailingZeros_0f7a4_34 at hf
  refine gz_iload_n (pc := 34) dJ6_numberOfTrailingZeros_0f7a4_34 rfl rfl ?_
  refine gz_sipush (v := (256 : Int32)) (pc := 35) dJ6_numberOfTrailingZeros_0f7a4_35 rfl ?_
  refine gz_icmp_le (tgt := 49) (pc := 38) dJ6_numberOfTrailingZeros_0f7a4_38 rfl (fun c_1 => ?_) (fun c_1 => ?_)
  · have hf := gz_gT hf c_1
    exact sJ6_numberOfTrailingZeros_0f7a4_49 x0 x1 h hf
  · have hf := gz_gF hf c_1
    refine gz_iinc (v := x1 + 8) (lv := [.int x0, .int (x1 + 8)]) (pc := 41) dJ6_numberOfTrailingZeros_0f7a4_41 rfl rfl (by decide) rfl ?_
    refine gz_iload_n (pc := 44) dJ6_numberOfTrailingZeros_0f7a4_44 rfl rfl ?_
    refine gz_bipush (v := (8 : Int32)) (pc := 45) dJ6_numberOfTrailingZeros_0f7a4_45 rfl ?_
    refine gz_iushr (pc := 47) dJ6_numberOfTrailingZeros_0f7a4_47 ?_
    refine gz_nmI (fun y_2 ey_2 => ?_)
    have hf := gz_gl ey_2 hf
    refine gz_istore_n (lv := [.int y_2, .int (x1 + 8)]) (pc := 48) dJ6_numberOfTrailingZeros_0f7a4_48 rfl (by decide) rfl ?_
    exact sJ6_numberOfTrailingZeros_0f7a4_49 y_2 (x1 + 8) h hf
def fJ6_numberOfTrailingZeros_0f7a4_0  (x0 : Int32) (h : gz_H) : Option (Int32 × gz_H) :=
    if 0 < ((x0 ^^^ (-1 : Int32)) &&& (x0 - (1 : Int32))) then (
     if ((x0 ^^^ (-1 : Int32)) &&& (x0 - (1 : Int32))) ≤ (65536 : Int32) then (
      fJ6_numberOfTrailingZeros_0f7a4_34 ((x0 ^^^ (-1 : Int32)) &&& (x0 - (1 : Int32))) (1 : Int32) h
     ) else (
      gz_lt ((((x0 ^^^ (-1 : Int32)) &&& (x0 - (1 : Int32))).toUInt32 >>> ((16 : Int32).toUInt32 &&& Int32.toUInt32 31)).toInt32) fun (y_3 : Int32) =>
      fJ6_numberOfTrailingZeros_0f7a4_34 y_3 ((1 : Int32) + 16) h
     )
    ) else (
     some (((x0 ^^^ (-1 : Int32)) &&& (x0 - (1 : Int32))) &&& (32 : Int32), h)
    )
set_option maxRecDepth 100000 in
set_option maxHeartbeats 1000000 in
theorem sJ6_numberOfTrailingZeros_0f7a4_0 {G : gz_G} {d l0 s0 : Nat} {Q : Int32 → gz_H → Prop} (x0 : Int32) (h : gz_H) (hf : gz_g (fJ6_numberOfTrailingZeros_0f7a4_0  x0 h) Q) : gz_Ok G mJ6_numberOfTrailingZeros_0f7a4 (d + 0, l0, s0, 0, 0) 0 [.int x0, .retAddr 0] [] h (gz_qi Q) := by
  unfold fJ6_numberOfTrailingZeros_0f7a4_0 at hf
  refine gz_iload_n (pc := 0) dJ6_numberOfTrailingZeros_0f7a4_0 rfl rfl ?_
  refine gz_iconst (v := (-1 : Int32)) (pc := 1) dJ6_numberOfTrailingZeros_0f7a4_1 rfl ?_
  refine gz_ixor (pc := 2) dJ6_numberOfTrailingZeros_0f7a4_2 ?_
  refine gz_iload_n (pc := 3) dJ6_numberOfTrailingZeros_0f7a4_3 rfl rfl ?_
  refine gz_iconst (v := (1 : Int32)) (pc := 4) dJ6_numberOfTrailingZeros_0f7a4_4 rfl ?_
  refine gz_isub (pc := 5) dJ6_numberOfTrailingZeros_0f7a4_5 ?_
  refine gz_iand (pc := 6) dJ6_numberOfTrailingZeros_0f7a4_6 ?_
  refine gz_istore_n (lv := [.int ((x0 ^^^ (-1 : Int32)) &&& (x0 - (1 : Int32))), .retAddr 0]) (pc := 7) dJ6_numberOfTrailingZeros_0f7a4_7 rfl (by decide) rfl ?_
  refine gz_iload_n (pc := 8) dJ6_numberOfTrailingZeros_0f7a4_8 rfl rfl ?_
  refine gz_if_gt (tgt := 17) (pc := 9) dJ6_numberOfTrailingZeros_0f7a4_9 rfl (fun c_1 => ?_) (fun c_1 => ?_)
  · have hf := gz_gT hf c_1
    refine gz_iconst (v := (1 : Int32)) (pc := 17) dJ6_numberOfTrailingZeros_0f7a4_17 rfl ?_
    refine gz_istore_n (lv := [.int ((x0 ^^^ (-1 : Int32)) &&& (x0 - (1 : Int32))), .int (1 : Int32)]) (pc := 18) dJ6_numberOfTrailingZeros_0f7a4_18 rfl (by decide) rfl ?_
    refine gz_iload_n (pc := 19) dJ6_numberOfTrailingZeros_0f7a4_19 rfl rfl ?_
    refine gz_ldcw (v := (65536 : Int32)) (pc := 20) dJ6_numberOfTrailingZeros_0f7a4_20 kc_RJ6_264 ?_
    refine gz_icmp_le (tgt := 34) (pc := 23) dJ6_numberOfTrailingZeros_0f7a4_23 rfl (fun c_2 => ?_) (fun c_2 => ?_)
    · have hf := gz_gT hf c_2
      exact sJ6_numberOfTrailingZeros_0f7a4_34 ((x0 ^^^ (-1 : Int32)) &&& (x0 - (1 : Int32))) (1 : Int32) h hf
    · have hf := gz_gF hf c_2
      refine gz_iinc (v := (1 : Int32) + 16) (lv := [.int ((x0 ^^^ (-1 : Int32)) &&& (x0 - (1 : Int32))), .int ((1 : Int32) + 16)]) (pc := 26) dJ6_numberOfTrailingZeros_0f7a4_26 rfl rfl (by decide) rfl ?_
      refine gz_iload_n (pc := 29) dJ6_numberOfTrailingZeros_0f7a4_29 rfl rfl ?_
      refine gz_bipush (v := (16 : Int32)) (pc := 30) dJ6_numberOfTrailingZeros_0f7a4_30 rfl ?_
      refine gz_iushr (pc := 32) dJ6_numberOfTrailingZeros_0f7a4_32 ?_
      refine gz_nmI (fun y_3 ey_3 => ?_)
      have hf := gz_gl ey_3 hf
      refine gz_istore_n (lv := [.int y_3, .int ((1 : Int32) + 16)]) (pc := 33) dJ6_numberOfTrailingZeros_0f7a4_33 rfl (by decide) rfl ?_
      exact sJ6_numberOfTrailingZeros_0f7a4_34 y_3 ((1 : Int32) + 16) h hf
  · have hf := gz_gF hf c_1
    refine gz_iload_n (pc := 12) dJ6_numberOfTrailingZeros_0f7a4_12 rfl rfl ?_
    refine gz_bipush (v := (32 : Int32)) (pc := 13) dJ6_numberOfTrailingZeros_0f7a4_13 rfl ?_
    refine gz_iand (pc := 15) dJ6_numberOfTrailingZeros_0f7a4_15 ?_
    exact gz_irt (pc := 16) dJ6_numberOfTrailingZeros_0f7a4_16 rfl rfl hf
def fJ6_numberOfTrailingZeros_0f7a4 (x0 : Int32) (h : gz_H) : Option (Int32 × gz_H) := fJ6_numberOfTrailingZeros_0f7a4_0 x0 h
theorem sJ6_numberOfTrailingZeros_0f7a4 {G : gz_G} {d : Nat} {x0 : Int32} {h : gz_H} {Q : Int32 → gz_H → Prop} (hf : gz_g (fJ6_numberOfTrailingZeros_0f7a4 x0 h) Q) : gz_Cl G mJ6_numberOfTrailingZeros_0f7a4 (d + 0) 0 0 [.int x0] h (gz_qi Q) := gz_cl_of (lo := [.int x0, .retAddr 0]) (by decide) rfl rfl (Nat.le_of_ble_eq_true rfl) (sJ6_numberOfTrailingZeros_0f7a4_0 x0 h hf)
theorem dX8_firstAndAsked_0 : decode cX8_firstAndAsked 0 = .ok (.aload_n 0, 1) := by decide +kernel
theorem dX8_firstAndAsked_1 : decode cX8_firstAndAsked 1 = .ok (.iload_n 1, 1) := by decide +kernel
theorem dX8_firstAndAsked_2 : decode cX8_firstAndAsked 2 = .ok (.invokestatic 226, 3) := by decide +kernel
theorem dX8_firstAndAsked_5 : decode cX8_firstAndAsked 5 = .ok (.putfield 115, 3) := by decide +kernel
theorem dX8_firstAndAsked_8 : decode cX8_firstAndAsked 8 = .ok (.iload_n 1, 1) := by decide +kernel
theorem dX8_firstAndAsked_9 : decode cX8_firstAndAsked 9 = .ok (.ifCond .ne 8, 3) := by decide +kernel
theorem dX8_firstAndAsked_12 : decode cX8_firstAndAsked 12 = .ok (.bipush (-9), 2) := by decide +kernel
theorem dX8_firstAndAsked_14 : decode cX8_firstAndAsked 14 = .ok (.goto 7, 3) := by decide +kernel
theorem dX8_firstAndAsked_17 : decode cX8_firstAndAsked 17 = .ok (.iload_n 1, 1) := by decide +kernel
theorem dX8_firstAndAsked_18 : decode cX8_firstAndAsked 18 = .ok (.invokestatic 370, 3) := by decide +kernel
theorem dX8_firstAndAsked_21 : decode cX8_firstAndAsked 21 = .ok (.ireturn, 1) := by decide +kernel
def fX8_firstAndAsked_0  (a0 : Nat) (x1 : Int32) (h : gz_H) : Option (Int32 × gz_H) :=
    gz_b2 (fJ6_bitCount_0f7a4 x1 h) fun y_2 h_1 =>
    gz_ck (gz_sh h_1 a0 8 19) <|
    gz_lt (uI h_1 a0 18 y_2) fun h_4 =>
    if x1 = 0 then (
     some ((-9 : Int32), h_4)
    ) else (
     gz_b2 (fJ6_numberOfTrailingZeros_0f7a4 x1 h_4) fun y_7 h_6 =>
     some (y_7, h_6)
    )
set_option maxRecDepth 100000 in
set_option maxHeartbeats 1000000 in
theorem sX8_firstAndAsked_0 {G : gz_G} {d l0 s0 : Nat} {Q : Int32 → gz_H → Prop} (a0 : Nat) (x1 : Int32) (h : gz_H) (hf : gz_g (fX8_firstAndAsked_0  a0 x1 h) Q) : gz_Ok G mX8_firstAndAsked (d + 1, l0, s0, 0, 0) 0 [.ref a0, .int x1] [] h (gz_qi Q) := by
  unfold fX8_firstAndAsked_0 at hf
  refine gz_aload_n (pc := 0) dX8_firstAndAsked_0 rfl rfl ?_
  refine gz_iload_n (pc := 1) dX8_firstAndAsked_1 rfl rfl ?_
  refine gz_cSI (av := [.int x1]) (st := [.ref a0]) (pc := 2) dX8_firstAndAsked_2 kl_RX8_226 rfl rfl (Nat.le_of_ble_eq_true rfl) (by show d + 0 + 0 + 1 ≤ d + 1; omega) (sJ6_bitCount_0f7a4 (d := d + 0) (gz_gc hf)) (fun y_2 h_1 hf => ?_)
  refine gz_gk hf (fun c_3 hf => ?_)
  refine gz_putI (pc := 5) dX8_firstAndAsked_5 fw_X8_firstAndAsked_115 rfl rfl rfl (gz_shs c_3) ?_
  refine gz_nmH (fun h_4 eh_4 => ?_)
  have hf := gz_gl eh_4 hf
  refine gz_iload_n (pc := 8) dX8_firstAndAsked_8 rfl rfl ?_
  refine gz_if_ne (tgt := 17) (pc := 9) dX8_firstAndAsked_9 rfl (fun c_5 => ?_) (fun c_5 => ?_)
  · have hf := gz_gF hf c_5
    refine gz_iload_n (pc := 17) dX8_firstAndAsked_17 rfl rfl ?_
    refine gz_cSI (av := [.int x1]) (st := []) (pc := 18) dX8_firstAndAsked_18 kl_RX8_370 rfl rfl (Nat.le_of_ble_eq_true rfl) (by show d + 0 + 0 + 1 ≤ d + 1; omega) (sJ6_numberOfTrailingZeros_0f7a4 (d := d + 0) (gz_gc hf)) (fun y_7 h_6 hf => ?_)
    exact gz_irt (pc := 21) dX8_firstAndAsked_21 rfl rfl hf
  · have hf := gz_gT hf c_5
    refine gz_bipush (v := (-9 : Int32)) (pc := 12) dX8_firstAndAsked_12 rfl ?_
    refine gz_goto (tgt := 21) (pc := 14) dX8_firstAndAsked_14 rfl ?_
    exact gz_irt (pc := 21) dX8_firstAndAsked_21 rfl rfl hf
def fX8_firstAndAsked (a0 : Nat) (x1 : Int32) (h : gz_H) : Option (Int32 × gz_H) := fX8_firstAndAsked_0 a0 x1 h
theorem sX8_firstAndAsked {G : gz_G} {d : Nat} {a0 : Nat} {x1 : Int32} {h : gz_H} {Q : Int32 → gz_H → Prop} (hf : gz_g (fX8_firstAndAsked a0 x1 h) Q) : gz_Cl G mX8_firstAndAsked (d + 1) 0 0 [.ref a0, .int x1] h (gz_qi Q) := gz_cl_of (lo := [.ref a0, .int x1]) (by decide) rfl rfl (Nat.le_of_ble_eq_true rfl) (sX8_firstAndAsked_0 a0 x1 h hf)
theorem dX8_lost_0 : decode cX8_lost 0 = .ok (.aload_n 0, 1) := by decide +kernel
theorem dX8_lost_1 : decode cX8_lost 1 = .ok (.aload_n 0, 1) := by decide +kernel
theorem dX8_lost_2 : decode cX8_lost 2 = .ok (.getfield 70, 3) := by decide +kernel
theorem dX8_lost_5 : decode cX8_lost 5 = .ok (.invokevirtual 210, 3) := by decide +kernel
theorem dX8_lost_8 : decode cX8_lost 8 = .ok (.invokevirtual 214, 3) := by decide +kernel
theorem dX8_lost_11 : decode cX8_lost 11 = .ok (.ireturn, 1) := by decide +kernel
def fX8_lost_0  (a0 : Nat) (h : gz_H) : Option (Int32 × gz_H) :=
    gz_ck (gz_sh h a0 8 19) <|
    gz_br (h.2.2.2 a0 9) fun r_2 =>
    gz_ck (gz_sh h r_2 1 4) <|
    gz_b2 (fX1_heldByNobody r_2 h) fun y_4 h_3 =>
    gz_ck (gz_sh h_3 a0 8 19) <|
    gz_b2 (fX8_firstAndAsked a0 y_4 h_3) fun y_7 h_6 =>
    some (y_7, h_6)
set_option maxRecDepth 100000 in
set_option maxHeartbeats 1000000 in
theorem sX8_lost_0 {G : gz_G} {d l0 s0 : Nat} {Q : Int32 → gz_H → Prop} (a0 : Nat) (h : gz_H) (hf : gz_g (fX8_lost_0  a0 h) Q) : gz_Ok G mX8_lost (d + 4, l0, s0, 0, 0) 0 [.ref a0] [] h (gz_qi Q) := by
  unfold fX8_lost_0 at hf
  refine gz_aload_n (pc := 0) dX8_lost_0 rfl rfl ?_
  refine gz_aload_n (pc := 1) dX8_lost_1 rfl rfl ?_
  refine gz_gk hf (fun c_1 hf => ?_)
  refine gz_gb hf (fun r_2 er_2 hf => ?_)
  refine gz_getR (pc := 2) dX8_lost_2 fl_RX8_70 rfl (gz_shs c_1) er_2 ?_
  refine gz_gk hf (fun c_5 hf => ?_)
  refine gz_cVI (av := []) (st := [.ref a0]) (pc := 5) dX8_lost_5 kl_RX8_210 rfl (gz_shs c_5) rfl rfl (Nat.le_of_ble_eq_true rfl) (by show d + 0 + 3 + 1 ≤ d + 4; omega) (sX1_heldByNobody (d := d + 0) (gz_gc hf)) (fun y_4 h_3 hf => ?_)
  refine gz_gk hf (fun c_8 hf => ?_)
  refine gz_cVI (av := [.int y_4]) (st := []) (pc := 8) dX8_lost_8 kl_RX8_214 rfl (gz_shs c_8) rfl rfl (Nat.le_of_ble_eq_true rfl) (by show d + 2 + 1 + 1 ≤ d + 4; omega) (sX8_firstAndAsked (d := d + 2) (gz_gc hf)) (fun y_7 h_6 hf => ?_)
  exact gz_irt (pc := 11) dX8_lost_11 rfl rfl hf
def fX8_lost (a0 : Nat) (h : gz_H) : Option (Int32 × gz_H) := fX8_lost_0 a0 h
theorem sX8_lost {G : gz_G} {d : Nat} {a0 : Nat} {h : gz_H} {Q : Int32 → gz_H → Prop} (hf : gz_g (fX8_lost a0 h) Q) : gz_Cl G mX8_lost (d + 4) 0 0 [.ref a0] h (gz_qi Q) := gz_cl_of (lo := [.ref a0]) (by decide) rfl rfl (Nat.le_of_ble_eq_true rfl) (sX8_lost_0 a0 h hf)
theorem dX8_mute_0 : decode cX8_mute 0 = .ok (.aload_n 0, 1) := by decide +kernel
theorem dX8_mute_1 : decode cX8_mute 1 = .ok (.invokevirtual 197, 3) := by decide +kernel
theorem dX8_mute_4 : decode cX8_mute 4 = .ok (.aload_n 0, 1) := by decide +kernel
theorem dX8_mute_5 : decode cX8_mute 5 = .ok (.aload_n 0, 1) := by decide +kernel
theorem dX8_mute_6 : decode cX8_mute 6 = .ok (.getfield 70, 3) := by decide +kernel
theorem dX8_mute_9 : decode cX8_mute 9 = .ok (.invokevirtual 217, 3) := by decide +kernel
theorem dX8_mute_12 : decode cX8_mute 12 = .ok (.aload_n 0, 1) := by decide +kernel
theorem dX8_mute_13 : decode cX8_mute 13 = .ok (.getfield 80, 3) := by decide +kernel
theorem dX8_mute_16 : decode cX8_mute 16 = .ok (.iconst (-1), 1) := by decide +kernel
theorem dX8_mute_17 : decode cX8_mute 17 = .ok (.invokestatic 200, 3) := by decide +kernel
theorem dX8_mute_20 : decode cX8_mute 20 = .ok (.iconst (-1), 1) := by decide +kernel
theorem dX8_mute_21 : decode cX8_mute 21 = .ok (.ixor, 1) := by decide +kernel
theorem dX8_mute_22 : decode cX8_mute 22 = .ok (.iand, 1) := by decide +kernel
theorem dX8_mute_23 : decode cX8_mute 23 = .ok (.invokevirtual 214, 3) := by decide +kernel
theorem dX8_mute_26 : decode cX8_mute 26 = .ok (.ireturn, 1) := by decide +kernel
def fX8_mute_0  (a0 : Nat) (h : gz_H) : Option (Int32 × gz_H) :=
    gz_ck (gz_sh h a0 8 19) <|
    gz_b2 (fX8_hearAll a0 h) fun _ h_1 =>
    gz_ck (gz_sh h_1 a0 8 19) <|
    gz_br (h_1.2.2.2 a0 9) fun r_5 =>
    gz_ck (gz_sh h_1 r_5 1 4) <|
    gz_b2 (fX1_heldBySome r_5 h_1) fun y_7 h_6 =>
    gz_ck (gz_sh h_6 a0 8 19) <|
    gz_br (h_6.2.2.2 a0 12) fun r_10 =>
    gz_b2 (fX8_joined r_10 (-1 : Int32) h_6) fun y_12 h_11 =>
    gz_ck (gz_sh h_11 a0 8 19) <|
    gz_b2 (fX8_firstAndAsked a0 (y_7 &&& (y_12 ^^^ (-1 : Int32))) h_11) fun y_14 h_13 =>
    some (y_14, h_13)
set_option maxRecDepth 100000 in
set_option maxHeartbeats 1000000 in
theorem sX8_mute_0 {G : gz_G} {d l0 s0 : Nat} {Q : Int32 → gz_H → Prop} (a0 : Nat) (h : gz_H) (hf : gz_g (fX8_mute_0  a0 h) Q) : gz_Ok G mX8_mute (d + 5, l0, s0, 0, 0) 0 [.ref a0] [] h (gz_qi Q) := by
  unfold fX8_mute_0 at hf
  refine gz_aload_n (pc := 0) dX8_mute_0 rfl rfl ?_
  refine gz_gk hf (fun c_3 hf => ?_)
  refine gz_cVV (av := []) (st := []) (pc := 1) dX8_mute_1 kl_RX8_197 rfl (gz_shs c_3) rfl rfl (Nat.le_of_ble_eq_true rfl) (by show d + 0 + 4 + 1 ≤ d + 5; omega) (sX8_hearAll (d := d + 0) (gz_gc hf)) (fun _ h_1 hf => ?_)
  refine gz_aload_n (pc := 4) dX8_mute_4 rfl rfl ?_
  refine gz_aload_n (pc := 5) dX8_mute_5 rfl rfl ?_
  refine gz_gk hf (fun c_4 hf => ?_)
  refine gz_gb hf (fun r_5 er_5 hf => ?_)
  refine gz_getR (pc := 6) dX8_mute_6 fl_RX8_70 rfl (gz_shs c_4) er_5 ?_
  refine gz_gk hf (fun c_8 hf => ?_)
  refine gz_cVI (av := []) (st := [.ref a0]) (pc := 9) dX8_mute_9 kl_RX8_217 rfl (gz_shs c_8) rfl rfl (Nat.le_of_ble_eq_true rfl) (by show d + 2 + 2 + 1 ≤ d + 5; omega) (sX1_heldBySome (d := d + 2) (gz_gc hf)) (fun y_7 h_6 hf => ?_)
  refine gz_aload_n (pc := 12) dX8_mute_12 rfl rfl ?_
  refine gz_gk hf (fun c_9 hf => ?_)
  refine gz_gb hf (fun r_10 er_10 hf => ?_)
  refine gz_getR (pc := 13) dX8_mute_13 fl_RX8_80 rfl (gz_shs c_9) er_10 ?_
  refine gz_iconst (v := (-1 : Int32)) (pc := 16) dX8_mute_16 rfl ?_
  refine gz_cSI (av := [.ref r_10, .int (-1 : Int32)]) (st := [.int y_7, .ref a0]) (pc := 17) dX8_mute_17 kl_RX8_200 rfl rfl (Nat.le_of_ble_eq_true rfl) (by show d + 4 + 0 + 1 ≤ d + 5; omega) (sX8_joined (d := d + 4) (gz_gc hf)) (fun y_12 h_11 hf => ?_)
  refine gz_iconst (v := (-1 : Int32)) (pc := 20) dX8_mute_20 rfl ?_
  refine gz_ixor (pc := 21) dX8_mute_21 ?_
  refine gz_iand (pc := 22) dX8_mute_22 ?_
  refine gz_gk hf (fun c_15 hf => ?_)
  refine gz_cVI (av := [.int (y_7 &&& (y_12 ^^^ (-1 : Int32)))]) (st := []) (pc := 23) dX8_mute_23 kl_RX8_214 rfl (gz_shs c_15) rfl rfl (Nat.le_of_ble_eq_true rfl) (by show d + 3 + 1 + 1 ≤ d + 5; omega) (sX8_firstAndAsked (d := d + 3) (gz_gc hf)) (fun y_14 h_13 hf => ?_)
  exact gz_irt (pc := 26) dX8_mute_26 rfl rfl hf
def fX8_mute (a0 : Nat) (h : gz_H) : Option (Int32 × gz_H) := fX8_mute_0 a0 h
theorem sX8_mute {G : gz_G} {d : Nat} {a0 : Nat} {h : gz_H} {Q : Int32 → gz_H → Prop} (hf : gz_g (fX8_mute a0 h) Q) : gz_Cl G mX8_mute (d + 5) 0 0 [.ref a0] h (gz_qi Q) := gz_cl_of (lo := [.ref a0]) (by decide) rfl rfl (Nat.le_of_ble_eq_true rfl) (sX8_mute_0 a0 h hf)
theorem dX8_isShorter_0 : decode cX8_isShorter 0 = .ok (.iload_n 1, 1) := by decide +kernel
theorem dX8_isShorter_1 : decode cX8_isShorter 1 = .ok (.invokestatic 226, 3) := by decide +kernel
theorem dX8_isShorter_4 : decode cX8_isShorter 4 = .ok (.iload_n 0, 1) := by decide +kernel
theorem dX8_isShorter_5 : decode cX8_isShorter 5 = .ok (.invokestatic 226, 3) := by decide +kernel
theorem dX8_isShorter_8 : decode cX8_isShorter 8 = .ok (.isub, 1) := by decide +kernel
theorem dX8_isShorter_9 : decode cX8_isShorter 9 = .ok (.istore_n 2, 1) := by decide +kernel
theorem dX8_isShorter_10 : decode cX8_isShorter 10 = .ok (.iload_n 0, 1) := by decide +kernel
theorem dX8_isShorter_11 : decode cX8_isShorter 11 = .ok (.iload_n 1, 1) := by decide +kernel
theorem dX8_isShorter_12 : decode cX8_isShorter 12 = .ok (.ixor, 1) := by decide +kernel
theorem dX8_isShorter_13 : decode cX8_isShorter 13 = .ok (.istore_n 3, 1) := by decide +kernel
theorem dX8_isShorter_14 : decode cX8_isShorter 14 = .ok (.iload_n 2, 1) := by decide +kernel
theorem dX8_isShorter_15 : decode cX8_isShorter 15 = .ok (.ifCond .gt 16, 3) := by decide +kernel
theorem dX8_isShorter_18 : decode cX8_isShorter 18 = .ok (.iload_n 2, 1) := by decide +kernel
theorem dX8_isShorter_19 : decode cX8_isShorter 19 = .ok (.ifCond .ne 16, 3) := by decide +kernel
theorem dX8_isShorter_22 : decode cX8_isShorter 22 = .ok (.iload_n 0, 1) := by decide +kernel
theorem dX8_isShorter_23 : decode cX8_isShorter 23 = .ok (.iload_n 3, 1) := by decide +kernel
theorem dX8_isShorter_24 : decode cX8_isShorter 24 = .ok (.iand, 1) := by decide +kernel
theorem dX8_isShorter_25 : decode cX8_isShorter 25 = .ok (.iload_n 3, 1) := by decide +kernel
theorem dX8_isShorter_26 : decode cX8_isShorter 26 = .ok (.ineg, 1) := by decide +kernel
theorem dX8_isShorter_27 : decode cX8_isShorter 27 = .ok (.iand, 1) := by decide +kernel
theorem dX8_isShorter_28 : decode cX8_isShorter 28 = .ok (.ifCond .eq 7, 3) := by decide +kernel
theorem dX8_isShorter_31 : decode cX8_isShorter 31 = .ok (.iconst 1, 1) := by decide +kernel
theorem dX8_isShorter_32 : decode cX8_isShorter 32 = .ok (.goto 4, 3) := by decide +kernel
theorem dX8_isShorter_35 : decode cX8_isShorter 35 = .ok (.iconst 0, 1) := by decide +kernel
theorem dX8_isShorter_36 : decode cX8_isShorter 36 = .ok (.ireturn, 1) := by decide +kernel
def fX8_isShorter_31   (h : gz_H) : Option (Int32 × gz_H) :=
    some ((1 : Int32), h)
set_option maxRecDepth 100000 in
set_option maxHeartbeats 1000000 in
theorem sX8_isShorter_31 {G : gz_G} {d l0 s0 : Nat} {Q : Int32 → gz_H → Prop}  (h : gz_H) (hf : gz_g (fX8_isShorter_31   h) Q) : gz_Ok G mX8_isShorter (d + 1, l0, s0, 0, 0) 31 [.retAddr 0, .retAddr 0, .retAddr 0, .retAddr 0] [] h (gz_qi Q) := by
  unfold fX8_isShorter_31 at hf
  refine gz_iconst (v := (1 : Int32)) (pc := 31) dX8_isShorter_31 rfl ?_
  refine gz_goto (tgt := 36) (pc := 32) dX8_isShorter_32 rfl ?_
  exact gz_irt (pc := 36) dX8_isShorter_36 rfl rfl hf
def fX8_isShorter_0  (x0 : Int32) (x1 : Int32) (h : gz_H) : Option (Int32 × gz_H) :=
    gz_b2 (fJ6_bitCount_0f7a4 x1 h) fun y_2 h_1 =>
    gz_b2 (fJ6_bitCount_0f7a4 x0 h_1) fun y_4 h_3 =>
    if 0 < (y_2 - y_4) then (
     fX8_isShorter_31 h_3
    ) else (
     if (y_2 - y_4) = 0 then (
      if ((x0 &&& (x0 ^^^ x1)) &&& (-(x0 ^^^ x1))) = 0 then (
       some ((0 : Int32), h_3)
      ) else (
       fX8_isShorter_31 h_3
      )
     ) else (
      some ((0 : Int32), h_3)
     )
    )
set_option maxRecDepth 100000 in
set_option maxHeartbeats 1000000 in
theorem sX8_isShorter_0 {G : gz_G} {d l0 s0 : Nat} {Q : Int32 → gz_H → Prop} (x0 : Int32) (x1 : Int32) (h : gz_H) (hf : gz_g (fX8_isShorter_0  x0 x1 h) Q) : gz_Ok G mX8_isShorter (d + 1, l0, s0, 0, 0) 0 [.int x0, .int x1, .retAddr 0, .retAddr 0] [] h (gz_qi Q) := by
  unfold fX8_isShorter_0 at hf
  refine gz_iload_n (pc := 0) dX8_isShorter_0 rfl rfl ?_
  refine gz_cSI (av := [.int x1]) (st := []) (pc := 1) dX8_isShorter_1 kl_RX8_226 rfl rfl (Nat.le_of_ble_eq_true rfl) (by show d + 0 + 0 + 1 ≤ d + 1; omega) (sJ6_bitCount_0f7a4 (d := d + 0) (gz_gc hf)) (fun y_2 h_1 hf => ?_)
  refine gz_iload_n (pc := 4) dX8_isShorter_4 rfl rfl ?_
  refine gz_cSI (av := [.int x0]) (st := [.int y_2]) (pc := 5) dX8_isShorter_5 kl_RX8_226 rfl rfl (Nat.le_of_ble_eq_true rfl) (by show d + 0 + 0 + 1 ≤ d + 1; omega) (sJ6_bitCount_0f7a4 (d := d + 0) (gz_gc hf)) (fun y_4 h_3 hf => ?_)
  refine gz_isub (pc := 8) dX8_isShorter_8 ?_
  refine gz_istore_n (lv := [.int x0, .int x1, .int (y_2 - y_4), .retAddr 0]) (pc := 9) dX8_isShorter_9 rfl (by decide) rfl ?_
  refine gz_iload_n (pc := 10) dX8_isShorter_10 rfl rfl ?_
  refine gz_iload_n (pc := 11) dX8_isShorter_11 rfl rfl ?_
  refine gz_ixor (pc := 12) dX8_isShorter_12 ?_
  refine gz_istore_n (lv := [.int x0, .int x1, .int (y_2 - y_4), .int (x0 ^^^ x1)]) (pc := 13) dX8_isShorter_13 rfl (by decide) rfl ?_
  refine gz_iload_n (pc := 14) dX8_isShorter_14 rfl rfl ?_
  refine gz_if_gt (tgt := 31) (pc := 15) dX8_isShorter_15 rfl (fun c_5 => ?_) (fun c_5 => ?_)
  · have hf := gz_gT hf c_5
    refine gz_fg (lv := [.retAddr 0, .retAddr 0, .retAddr 0, .retAddr 0]) ⟨Or.inl rfl, ⟨Or.inl rfl, ⟨Or.inl rfl, ⟨Or.inl rfl, trivial⟩⟩⟩⟩ ?_
    exact sX8_isShorter_31 h_3 hf
  · have hf := gz_gF hf c_5
    refine gz_iload_n (pc := 18) dX8_isShorter_18 rfl rfl ?_
    refine gz_if_ne (tgt := 35) (pc := 19) dX8_isShorter_19 rfl (fun c_6 => ?_) (fun c_6 => ?_)
    · have hf := gz_gF hf c_6
      refine gz_iconst (v := (0 : Int32)) (pc := 35) dX8_isShorter_35 rfl ?_
      exact gz_irt (pc := 36) dX8_isShorter_36 rfl rfl hf
    · have hf := gz_gT hf c_6
      refine gz_iload_n (pc := 22) dX8_isShorter_22 rfl rfl ?_
      refine gz_iload_n (pc := 23) dX8_isShorter_23 rfl rfl ?_
      refine gz_iand (pc := 24) dX8_isShorter_24 ?_
      refine gz_iload_n (pc := 25) dX8_isShorter_25 rfl rfl ?_
      refine gz_ineg (pc := 26) dX8_isShorter_26 ?_
      refine gz_iand (pc := 27) dX8_isShorter_27 ?_
      refine gz_if_eq (tgt := 35) (pc := 28) dX8_isShorter_28 rfl (fun c_7 => ?_) (fun c_7 => ?_)
      · have hf := gz_gT hf c_7
        refine gz_iconst (v := (0 : Int32)) (pc := 35) dX8_isShorter_35 rfl ?_
        exact gz_irt (pc := 36) dX8_isShorter_36 rfl rfl hf
      · have hf := gz_gF hf c_7
        refine gz_fg (lv := [.retAddr 0, .retAddr 0, .retAddr 0, .retAddr 0]) ⟨Or.inl rfl, ⟨Or.inl rfl, ⟨Or.inl rfl, ⟨Or.inl rfl, trivial⟩⟩⟩⟩ ?_
        exact sX8_isShorter_31 h_3 hf
def fX8_isShorter (x0 : Int32) (x1 : Int32) (h : gz_H) : Option (Int32 × gz_H) := fX8_isShorter_0 x0 x1 h
theorem sX8_isShorter {G : gz_G} {d : Nat} {x0 : Int32} {x1 : Int32} {h : gz_H} {Q : Int32 → gz_H → Prop} (hf : gz_g (fX8_isShorter x0 x1 h) Q) : gz_Cl G mX8_isShorter (d + 1) 0 0 [.int x0, .int x1] h (gz_qi Q) := gz_cl_of (lo := [.int x0, .int x1, .retAddr 0, .retAddr 0]) (by decide) rfl rfl (Nat.le_of_ble_eq_true rfl) (sX8_isShorter_0 x0 x1 h hf)
theorem dX8_shortestWalk_0 : decode cX8_shortestWalk 0 = .ok (.iconst 0, 1) := by decide +kernel
theorem dX8_shortestWalk_1 : decode cX8_shortestWalk 1 = .ok (.istore_n 3, 1) := by decide +kernel
theorem dX8_shortestWalk_2 : decode cX8_shortestWalk 2 = .ok (.iload_n 3, 1) := by decide +kernel
theorem dX8_shortestWalk_3 : decode cX8_shortestWalk 3 = .ok (.bipush 6, 2) := by decide +kernel
theorem dX8_shortestWalk_5 : decode cX8_shortestWalk 5 = .ok (.if_icmp .ge 24, 3) := by decide +kernel
theorem dX8_shortestWalk_8 : decode cX8_shortestWalk 8 = .ok (.aload_n 0, 1) := by decide +kernel
theorem dX8_shortestWalk_9 : decode cX8_shortestWalk 9 = .ok (.getfield 84, 3) := by decide +kernel
theorem dX8_shortestWalk_12 : decode cX8_shortestWalk 12 = .ok (.iload_n 3, 1) := by decide +kernel
theorem dX8_shortestWalk_13 : decode cX8_shortestWalk 13 = .ok (.aload_n 0, 1) := by decide +kernel
theorem dX8_shortestWalk_14 : decode cX8_shortestWalk 14 = .ok (.getfield 70, 3) := by decide +kernel
theorem dX8_shortestWalk_17 : decode cX8_shortestWalk 17 = .ok (.iload_n 1, 1) := by decide +kernel
theorem dX8_shortestWalk_18 : decode cX8_shortestWalk 18 = .ok (.iload_n 3, 1) := by decide +kernel
theorem dX8_shortestWalk_19 : decode cX8_shortestWalk 19 = .ok (.invokevirtual 191, 3) := by decide +kernel
theorem dX8_shortestWalk_22 : decode cX8_shortestWalk 22 = .ok (.iastore, 1) := by decide +kernel
theorem dX8_shortestWalk_23 : decode cX8_shortestWalk 23 = .ok (.iinc 3 1, 3) := by decide +kernel
theorem dX8_shortestWalk_26 : decode cX8_shortestWalk 26 = .ok (.goto (-24), 3) := by decide +kernel
theorem dX8_shortestWalk_29 : decode cX8_shortestWalk 29 = .ok (.bipush (-9), 2) := by decide +kernel
theorem dX8_shortestWalk_31 : decode cX8_shortestWalk 31 = .ok (.istore_n 3, 1) := by decide +kernel
theorem dX8_shortestWalk_32 : decode cX8_shortestWalk 32 = .ok (.iconst 0, 1) := by decide +kernel
theorem dX8_shortestWalk_33 : decode cX8_shortestWalk 33 = .ok (.istore 4, 2) := by decide +kernel
theorem dX8_shortestWalk_35 : decode cX8_shortestWalk 35 = .ok (.iload 4, 2) := by decide +kernel
theorem dX8_shortestWalk_37 : decode cX8_shortestWalk 37 = .ok (.bipush 64, 2) := by decide +kernel
theorem dX8_shortestWalk_39 : decode cX8_shortestWalk 39 = .ok (.if_icmp .ge 43, 3) := by decide +kernel
theorem dX8_shortestWalk_42 : decode cX8_shortestWalk 42 = .ok (.iload_n 2, 1) := by decide +kernel
theorem dX8_shortestWalk_43 : decode cX8_shortestWalk 43 = .ok (.aload_n 0, 1) := by decide +kernel
theorem dX8_shortestWalk_44 : decode cX8_shortestWalk 44 = .ok (.getfield 84, 3) := by decide +kernel
theorem dX8_shortestWalk_47 : decode cX8_shortestWalk 47 = .ok (.iload 4, 2) := by decide +kernel
theorem dX8_shortestWalk_49 : decode cX8_shortestWalk 49 = .ok (.invokestatic 200, 3) := by decide +kernel
theorem dX8_shortestWalk_52 : decode cX8_shortestWalk 52 = .ok (.iconst (-1), 1) := by decide +kernel
theorem dX8_shortestWalk_53 : decode cX8_shortestWalk 53 = .ok (.ixor, 1) := by decide +kernel
theorem dX8_shortestWalk_54 : decode cX8_shortestWalk 54 = .ok (.iand, 1) := by decide +kernel
theorem dX8_shortestWalk_55 : decode cX8_shortestWalk 55 = .ok (.ifCond .ne 21, 3) := by decide +kernel
theorem dX8_shortestWalk_58 : decode cX8_shortestWalk 58 = .ok (.iload_n 3, 1) := by decide +kernel
theorem dX8_shortestWalk_59 : decode cX8_shortestWalk 59 = .ok (.bipush (-9), 2) := by decide +kernel
theorem dX8_shortestWalk_61 : decode cX8_shortestWalk 61 = .ok (.if_icmp .eq 12, 3) := by decide +kernel
theorem dX8_shortestWalk_64 : decode cX8_shortestWalk 64 = .ok (.iload 4, 2) := by decide +kernel
theorem dX8_shortestWalk_66 : decode cX8_shortestWalk 66 = .ok (.iload_n 3, 1) := by decide +kernel
theorem dX8_shortestWalk_67 : decode cX8_shortestWalk 67 = .ok (.invokestatic 373, 3) := by decide +kernel
theorem dX8_shortestWalk_70 : decode cX8_shortestWalk 70 = .ok (.ifCond .eq 6, 3) := by decide +kernel
theorem dX8_shortestWalk_73 : decode cX8_shortestWalk 73 = .ok (.iload 4, 2) := by decide +kernel
theorem dX8_shortestWalk_75 : decode cX8_shortestWalk 75 = .ok (.istore_n 3, 1) := by decide +kernel
theorem dX8_shortestWalk_76 : decode cX8_shortestWalk 76 = .ok (.iinc 4 1, 3) := by decide +kernel
theorem dX8_shortestWalk_79 : decode cX8_shortestWalk 79 = .ok (.goto (-44), 3) := by decide +kernel
theorem dX8_shortestWalk_82 : decode cX8_shortestWalk 82 = .ok (.iload_n 3, 1) := by decide +kernel
theorem dX8_shortestWalk_83 : decode cX8_shortestWalk 83 = .ok (.ireturn, 1) := by decide +kernel
def fX8_shortestWalk_76 (k35 : Nat → Int32 → Int32 → Int32 → gz_H → Option (Int32 × gz_H)) (a0 : Nat) (x2 : Int32) (x3 : Int32) (x4 : Int32) (h : gz_H) : Option (Int32 × gz_H) :=
    k35 a0 x2 x3 (x4 + 1) h
set_option maxRecDepth 100000 in
set_option maxHeartbeats 1000000 in
theorem sX8_shortestWalk_76 {G : gz_G} {d l0 s0 : Nat} {Q : Int32 → gz_H → Prop} {k35 : Nat → Int32 → Int32 → Int32 → gz_H → Option (Int32 × gz_H)} (hk35 : ∀ (a0 : Nat) (x2 : Int32) (x3 : Int32) (x4 : Int32) (h : gz_H), gz_g (k35 a0 x2 x3 x4 h) Q → gz_Ok G mX8_shortestWalk (d + 3, l0, s0, 0, 0) 35 [.ref a0, .retAddr 0, .int x2, .int x3, .int x4] [] h (gz_qi Q)) (a0 : Nat) (x2 : Int32) (x3 : Int32) (x4 : Int32) (h : gz_H) (hf : gz_g (fX8_shortestWalk_76 k35 a0 x2 x3 x4 h) Q) : gz_Ok G mX8_shortestWalk (d + 3, l0, s0, 0, 0) 76 [.ref a0, .retAddr 0, .int x2, .int x3, .int x4] [] h (gz_qi Q) := by
  unfold fX8_shortestWalk_76 at hf
  refine gz_iinc (v := x4 + 1) (lv := [.ref a0, .retAddr 0, .int x2, .int x3, .int (x4 + 1)]) (pc := 76) dX8_shortestWalk_76 rfl rfl (by decide) rfl ?_
  refine gz_goto (tgt := 35) (pc := 79) dX8_shortestWalk_79 rfl ?_
  exact hk35 a0 x2 x3 (x4 + 1) h hf
def fX8_shortestWalk_73 (k35 : Nat → Int32 → Int32 → Int32 → gz_H → Option (Int32 × gz_H)) (a0 : Nat) (x2 : Int32) (x4 : Int32) (h : gz_H) : Option (Int32 × gz_H) :=
    fX8_shortestWalk_76 k35 a0 x2 x4 x4 h
set_option maxRecDepth 100000 in
set_option maxHeartbeats 1000000 in
theorem sX8_shortestWalk_73 {G : gz_G} {d l0 s0 : Nat} {Q : Int32 → gz_H → Prop} {k35 : Nat → Int32 → Int32 → Int32 → gz_H → Option (Int32 × gz_H)} (hk35 : ∀ (a0 : Nat) (x2 : Int32) (x3 : Int32) (x4 : Int32) (h : gz_H), gz_g (k35 a0 x2 x3 x4 h) Q → gz_Ok G mX8_shortestWalk (d + 3, l0, s0, 0, 0) 35 [.ref a0, .retAddr 0, .int x2, .int x3, .int x4] [] h (gz_qi Q)) (a0 : Nat) (x2 : Int32) (x4 : Int32) (h : gz_H) (hf : gz_g (fX8_shortestWalk_73 k35 a0 x2 x4 h) Q) : gz_Ok G mX8_shortestWalk (d + 3, l0, s0, 0, 0) 73 [.ref a0, .retAddr 0, .int x2, .retAddr 0, .int x4] [] h (gz_qi Q) := by
  unfold fX8_shortestWalk_73 at hf
  refine gz_iload (pc := 73) dX8_shortestWalk_73 rfl ?_
  refine gz_istore_n (lv := [.ref a0, .retAddr 0, .int x2, .int x4, .int x4]) (pc := 75) dX8_shortestWalk_75 rfl (by decide) rfl ?_
  exact sX8_shortestWalk_76 hk35 a0 x2 x4 x4 h hf
def fX8_shortestWalk_35  : Nat → Nat → Int32 → Int32 → Int32 → gz_H → Option (Int32 × gz_H)
  | 0, _, _, _, _, _ => none
  | n + 1, a0, x2, x3, x4, h =>
    if (64 : Int32) ≤ x4 then (
     some (x3, h)
    ) else (
     gz_ck (gz_sh h a0 8 19) <|
     gz_br (h.2.2.2 a0 13) fun r_3 =>
     gz_b2 (fX8_joined r_3 x4 h) fun y_5 h_4 =>
     if (x2 &&& (y_5 ^^^ (-1 : Int32))) = 0 then (
      if x3 = (-9 : Int32) then (
       fX8_shortestWalk_73 (fun z0 z1 z2 z3 zh => fX8_shortestWalk_35 n z0 z1 z2 z3 zh) a0 x2 x4 h_4
      ) else (
       gz_b2 (fX8_isShorter x4 x3 h_4) fun y_9 h_8 =>
       if y_9 = 0 then (
        fX8_shortestWalk_76 (fun z0 z1 z2 z3 zh => fX8_shortestWalk_35 n z0 z1 z2 z3 zh) a0 x2 x3 x4 h_8
       ) else (
        fX8_shortestWalk_73 (fun z0 z1 z2 z3 zh => fX8_shortestWalk_35 n z0 z1 z2 z3 zh) a0 x2 x4 h_8
       )
      )
     ) else (
      fX8_shortestWalk_76 (fun z0 z1 z2 z3 zh => fX8_shortestWalk_35 n z0 z1 z2 z3 zh) a0 x2 x3 x4 h_4
     )
    )
set_option maxRecDepth 100000 in
set_option maxHeartbeats 1000000 in
theorem sX8_shortestWalk_35 {G : gz_G} {d l0 s0 : Nat} {Q : Int32 → gz_H → Prop} : ∀ (n : Nat) (a0 : Nat) (x2 : Int32) (x3 : Int32) (x4 : Int32) (h : gz_H), gz_g (fX8_shortestWalk_35  n a0 x2 x3 x4 h) Q → gz_Ok G mX8_shortestWalk (d + 3, l0, s0, 0, 0) 35 [.ref a0, .retAddr 0, .int x2, .int x3, .int x4] [] h (gz_qi Q) := by
  intro n
  induction n with
  | zero => intro a0 x2 x3 x4 h hf; exact False.elim hf
  | succ n ih =>
    intro a0 x2 x3 x4 h hf
    rw [fX8_shortestWalk_35] at hf
    refine gz_iload (pc := 35) dX8_shortestWalk_35 rfl ?_
    refine gz_bipush (v := (64 : Int32)) (pc := 37) dX8_shortestWalk_37 rfl ?_
    refine gz_icmp_ge (tgt := 82) (pc := 39) dX8_shortestWalk_39 rfl (fun c_1 => ?_) (fun c_1 => ?_)
    · have hf := gz_gT hf c_1
      refine gz_iload_n (pc := 82) dX8_shortestWalk_82 rfl rfl ?_
      exact gz_irt (pc := 83) dX8_shortestWalk_83 rfl rfl hf
    · have hf := gz_gF hf c_1
      refine gz_iload_n (pc := 42) dX8_shortestWalk_42 rfl rfl ?_
      refine gz_aload_n (pc := 43) dX8_shortestWalk_43 rfl rfl ?_
      refine gz_gk hf (fun c_2 hf => ?_)
      refine gz_gb hf (fun r_3 er_3 hf => ?_)
      refine gz_getR (pc := 44) dX8_shortestWalk_44 fl_RX8_84 rfl (gz_shs c_2) er_3 ?_
      refine gz_iload (pc := 47) dX8_shortestWalk_47 rfl ?_
      refine gz_cSI (av := [.ref r_3, .int x4]) (st := [.int x2]) (pc := 49) dX8_shortestWalk_49 kl_RX8_200 rfl rfl (Nat.le_of_ble_eq_true rfl) (by show d + 2 + 0 + 1 ≤ d + 3; omega) (sX8_joined (d := d + 2) (gz_gc hf)) (fun y_5 h_4 hf => ?_)
      refine gz_iconst (v := (-1 : Int32)) (pc := 52) dX8_shortestWalk_52 rfl ?_
      refine gz_ixor (pc := 53) dX8_shortestWalk_53 ?_
      refine gz_iand (pc := 54) dX8_shortestWalk_54 ?_
      refine gz_if_ne (tgt := 76) (pc := 55) dX8_shortestWalk_55 rfl (fun c_6 => ?_) (fun c_6 => ?_)
      · have hf := gz_gF hf c_6
        exact sX8_shortestWalk_76 ih a0 x2 x3 x4 h_4 hf
      · have hf := gz_gT hf c_6
        refine gz_iload_n (pc := 58) dX8_shortestWalk_58 rfl rfl ?_
        refine gz_bipush (v := (-9 : Int32)) (pc := 59) dX8_shortestWalk_59 rfl ?_
        refine gz_icmp_eq (tgt := 73) (pc := 61) dX8_shortestWalk_61 rfl (fun c_7 => ?_) (fun c_7 => ?_)
        · have hf := gz_gT hf c_7
          refine gz_fg (lv := [.ref a0, .retAddr 0, .int x2, .retAddr 0, .int x4]) ⟨Or.inr rfl, ⟨Or.inl rfl, ⟨Or.inr rfl, ⟨Or.inl rfl, ⟨Or.inr rfl, trivial⟩⟩⟩⟩⟩ ?_
          exact sX8_shortestWalk_73 ih a0 x2 x4 h_4 hf
        · have hf := gz_gF hf c_7
          refine gz_iload (pc := 64) dX8_shortestWalk_64 rfl ?_
          refine gz_iload_n (pc := 66) dX8_shortestWalk_66 rfl rfl ?_
          refine gz_cSI (av := [.int x4, .int x3]) (st := []) (pc := 67) dX8_shortestWalk_67 kl_RX8_373 rfl rfl (Nat.le_of_ble_eq_true rfl) (by show d + 1 + 1 + 1 ≤ d + 3; omega) (sX8_isShorter (d := d + 1) (gz_gc hf)) (fun y_9 h_8 hf => ?_)
          refine gz_if_eq (tgt := 76) (pc := 70) dX8_shortestWalk_70 rfl (fun c_10 => ?_) (fun c_10 => ?_)
          · have hf := gz_gT hf c_10
            exact sX8_shortestWalk_76 ih a0 x2 x3 x4 h_8 hf
          · have hf := gz_gF hf c_10
            refine gz_fg (lv := [.ref a0, .retAddr 0, .int x2, .retAddr 0, .int x4]) ⟨Or.inr rfl, ⟨Or.inl rfl, ⟨Or.inr rfl, ⟨Or.inl rfl, ⟨Or.inr rfl, trivial⟩⟩⟩⟩⟩ ?_
            exact sX8_shortestWalk_73 ih a0 x2 x4 h_8 hf
def fX8_shortestWalk_2  : Nat → Nat → Int32 → Int32 → Int32 → gz_H → Option (Int32 × gz_H)
  | 0, _, _, _, _, _ => none
  | n + 1, a0, x1, x2, x3, h =>
    if (6 : Int32) ≤ x3 then (
     fX8_shortestWalk_35 gz_fu a0 x2 (-9 : Int32) (0 : Int32) h
    ) else (
     gz_ck (gz_sh h a0 8 19) <|
     gz_br (h.2.2.2 a0 13) fun r_3 =>
     gz_br (h.2.2.2 a0 9) fun r_4 =>
     gz_ck (gz_sh h r_4 1 4) <|
     gz_b2 (fX1_toldAt r_4 x1 x3 h) fun y_6 h_5 =>
     gz_ck (gz_inb h_5 r_3 10 x3) <|
     gz_lt (uI h_5 r_3 x3.toNatClampNeg y_6) fun h_9 =>
     fX8_shortestWalk_2 n a0 x1 x2 (x3 + 1) h_9
    )
set_option maxRecDepth 100000 in
set_option maxHeartbeats 1000000 in
theorem sX8_shortestWalk_2 {G : gz_G} {d l0 s0 : Nat} {Q : Int32 → gz_H → Prop} : ∀ (n : Nat) (a0 : Nat) (x1 : Int32) (x2 : Int32) (x3 : Int32) (h : gz_H), gz_g (fX8_shortestWalk_2  n a0 x1 x2 x3 h) Q → gz_Ok G mX8_shortestWalk (d + 3, l0, s0, 0, 0) 2 [.ref a0, .int x1, .int x2, .int x3, .retAddr 0] [] h (gz_qi Q) := by
  intro n
  induction n with
  | zero => intro a0 x1 x2 x3 h hf; exact False.elim hf
  | succ n ih =>
    intro a0 x1 x2 x3 h hf
    rw [fX8_shortestWalk_2] at hf
    refine gz_iload_n (pc := 2) dX8_shortestWalk_2 rfl rfl ?_
    refine gz_bipush (v := (6 : Int32)) (pc := 3) dX8_shortestWalk_3 rfl ?_
    refine gz_icmp_ge (tgt := 29) (pc := 5) dX8_shortestWalk_5 rfl (fun c_1 => ?_) (fun c_1 => ?_)
    · have hf := gz_gT hf c_1
      refine gz_bipush (v := (-9 : Int32)) (pc := 29) dX8_shortestWalk_29 rfl ?_
      refine gz_istore_n (lv := [.ref a0, .int x1, .int x2, .int (-9 : Int32), .retAddr 0]) (pc := 31) dX8_shortestWalk_31 rfl (by decide) rfl ?_
      refine gz_iconst (v := (0 : Int32)) (pc := 32) dX8_shortestWalk_32 rfl ?_
      refine gz_istore (lv := [.ref a0, .int x1, .int x2, .int (-9 : Int32), .int (0 : Int32)]) (pc := 33) dX8_shortestWalk_33 (by decide) rfl ?_
      refine gz_fg (lv := [.ref a0, .retAddr 0, .int x2, .int (-9 : Int32), .int (0 : Int32)]) ⟨Or.inr rfl, ⟨Or.inl rfl, ⟨Or.inr rfl, ⟨Or.inr rfl, ⟨Or.inr rfl, trivial⟩⟩⟩⟩⟩ ?_
      exact sX8_shortestWalk_35 gz_fu a0 x2 (-9 : Int32) (0 : Int32) h hf
    · have hf := gz_gF hf c_1
      refine gz_aload_n (pc := 8) dX8_shortestWalk_8 rfl rfl ?_
      refine gz_gk hf (fun c_2 hf => ?_)
      refine gz_gb hf (fun r_3 er_3 hf => ?_)
      refine gz_getR (pc := 9) dX8_shortestWalk_9 fl_RX8_84 rfl (gz_shs c_2) er_3 ?_
      refine gz_iload_n (pc := 12) dX8_shortestWalk_12 rfl rfl ?_
      refine gz_aload_n (pc := 13) dX8_shortestWalk_13 rfl rfl ?_
      refine gz_gb hf (fun r_4 er_4 hf => ?_)
      refine gz_getR (pc := 14) dX8_shortestWalk_14 fl_RX8_70 rfl (gz_shs c_2) er_4 ?_
      refine gz_iload_n (pc := 17) dX8_shortestWalk_17 rfl rfl ?_
      refine gz_iload_n (pc := 18) dX8_shortestWalk_18 rfl rfl ?_
      refine gz_gk hf (fun c_7 hf => ?_)
      refine gz_cVI (av := [.int x1, .int x3]) (st := [.int x3, .ref r_3]) (pc := 19) dX8_shortestWalk_19 kl_RX8_191 rfl (gz_shs c_7) rfl rfl (Nat.le_of_ble_eq_true rfl) (by show d + 0 + 2 + 1 ≤ d + 3; omega) (sX1_toldAt (d := d + 0) (gz_gc hf)) (fun y_6 h_5 hf => ?_)
      refine gz_gk hf (fun c_8 hf => ?_)
      refine gz_iast (pc := 22) dX8_shortestWalk_22 c_8 ?_
      refine gz_nmH (fun h_9 eh_9 => ?_)
      have hf := gz_gl eh_9 hf
      refine gz_iinc (v := x3 + 1) (lv := [.ref a0, .int x1, .int x2, .int (x3 + 1), .retAddr 0]) (pc := 23) dX8_shortestWalk_23 rfl rfl (by decide) rfl ?_
      refine gz_goto (tgt := 2) (pc := 26) dX8_shortestWalk_26 rfl ?_
      exact ih a0 x1 x2 (x3 + 1) h_9 hf
def fX8_shortestWalk_0  (a0 : Nat) (x1 : Int32) (x2 : Int32) (h : gz_H) : Option (Int32 × gz_H) :=
    fX8_shortestWalk_2 gz_fu a0 x1 x2 (0 : Int32) h
set_option maxRecDepth 100000 in
set_option maxHeartbeats 1000000 in
theorem sX8_shortestWalk_0 {G : gz_G} {d l0 s0 : Nat} {Q : Int32 → gz_H → Prop} (a0 : Nat) (x1 : Int32) (x2 : Int32) (h : gz_H) (hf : gz_g (fX8_shortestWalk_0  a0 x1 x2 h) Q) : gz_Ok G mX8_shortestWalk (d + 3, l0, s0, 0, 0) 0 [.ref a0, .int x1, .int x2, .retAddr 0, .retAddr 0] [] h (gz_qi Q) := by
  unfold fX8_shortestWalk_0 at hf
  refine gz_iconst (v := (0 : Int32)) (pc := 0) dX8_shortestWalk_0 rfl ?_
  refine gz_istore_n (lv := [.ref a0, .int x1, .int x2, .int (0 : Int32), .retAddr 0]) (pc := 1) dX8_shortestWalk_1 rfl (by decide) rfl ?_
  exact sX8_shortestWalk_2 gz_fu a0 x1 x2 (0 : Int32) h hf
def fX8_shortestWalk (a0 : Nat) (x1 : Int32) (x2 : Int32) (h : gz_H) : Option (Int32 × gz_H) := fX8_shortestWalk_0 a0 x1 x2 h
theorem sX8_shortestWalk {G : gz_G} {d : Nat} {a0 : Nat} {x1 : Int32} {x2 : Int32} {h : gz_H} {Q : Int32 → gz_H → Prop} (hf : gz_g (fX8_shortestWalk a0 x1 x2 h) Q) : gz_Cl G mX8_shortestWalk (d + 3) 0 0 [.ref a0, .int x1, .int x2] h (gz_qi Q) := gz_cl_of (lo := [.ref a0, .int x1, .int x2, .retAddr 0, .retAddr 0]) (by decide) rfl rfl (Nat.le_of_ble_eq_true rfl) (sX8_shortestWalk_0 a0 x1 x2 h hf)
theorem dX8_walk_0 : decode cX8_walk 0 = .ok (.aload_n 0, 1) := by decide +kernel
theorem dX8_walk_1 : decode cX8_walk 1 = .ok (.getfield 70, 3) := by decide +kernel
theorem dX8_walk_4 : decode cX8_walk 4 = .ok (.iload_n 1, 1) := by decide +kernel
theorem dX8_walk_5 : decode cX8_walk 5 = .ok (.invokevirtual 150, 3) := by decide +kernel
theorem dX8_walk_8 : decode cX8_walk 8 = .ok (.ifCond .eq 25, 3) := by decide +kernel
theorem dX8_walk_11 : decode cX8_walk 11 = .ok (.aload_n 0, 1) := by decide +kernel
theorem dX8_walk_12 : decode cX8_walk 12 = .ok (.getfield 70, 3) := by decide +kernel
theorem dX8_walk_15 : decode cX8_walk 15 = .ok (.iload_n 2, 1) := by decide +kernel
theorem dX8_walk_16 : decode cX8_walk 16 = .ok (.invokevirtual 220, 3) := by decide +kernel
theorem dX8_walk_19 : decode cX8_walk 19 = .ok (.ifCond .eq 14, 3) := by decide +kernel
theorem dX8_walk_22 : decode cX8_walk 22 = .ok (.aload_n 0, 1) := by decide +kernel
theorem dX8_walk_23 : decode cX8_walk 23 = .ok (.getfield 14, 3) := by decide +kernel
theorem dX8_walk_26 : decode cX8_walk 26 = .ok (.iload_n 3, 1) := by decide +kernel
theorem dX8_walk_27 : decode cX8_walk 27 = .ok (.invokevirtual 118, 3) := by decide +kernel
theorem dX8_walk_30 : decode cX8_walk 30 = .ok (.ifCond .ne 5, 3) := by decide +kernel
theorem dX8_walk_33 : decode cX8_walk 33 = .ok (.iconst (-1), 1) := by decide +kernel
theorem dX8_walk_34 : decode cX8_walk 34 = .ok (.ireturn, 1) := by decide +kernel
theorem dX8_walk_35 : decode cX8_walk 35 = .ok (.aload_n 0, 1) := by decide +kernel
theorem dX8_walk_36 : decode cX8_walk 36 = .ok (.iload_n 1, 1) := by decide +kernel
theorem dX8_walk_37 : decode cX8_walk 37 = .ok (.iload_n 2, 1) := by decide +kernel
theorem dX8_walk_38 : decode cX8_walk 38 = .ok (.invokevirtual 223, 3) := by decide +kernel
theorem dX8_walk_41 : decode cX8_walk 41 = .ok (.istore 4, 2) := by decide +kernel
theorem dX8_walk_43 : decode cX8_walk 43 = .ok (.iload 4, 2) := by decide +kernel
theorem dX8_walk_45 : decode cX8_walk 45 = .ok (.bipush (-9), 2) := by decide +kernel
theorem dX8_walk_47 : decode cX8_walk 47 = .ok (.if_icmp .ne 6, 3) := by decide +kernel
theorem dX8_walk_50 : decode cX8_walk 50 = .ok (.bipush (-9), 2) := by decide +kernel
theorem dX8_walk_52 : decode cX8_walk 52 = .ok (.ireturn, 1) := by decide +kernel
theorem dX8_walk_53 : decode cX8_walk 53 = .ok (.aload_n 0, 1) := by decide +kernel
theorem dX8_walk_54 : decode cX8_walk 54 = .ok (.getfield 14, 3) := by decide +kernel
theorem dX8_walk_57 : decode cX8_walk 57 = .ok (.iload_n 3, 1) := by decide +kernel
theorem dX8_walk_58 : decode cX8_walk 58 = .ok (.iload 4, 2) := by decide +kernel
theorem dX8_walk_60 : decode cX8_walk 60 = .ok (.invokestatic 226, 3) := by decide +kernel
theorem dX8_walk_63 : decode cX8_walk 63 = .ok (.iconst 0, 1) := by decide +kernel
theorem dX8_walk_64 : decode cX8_walk 64 = .ok (.invokevirtual 231, 3) := by decide +kernel
theorem dX8_walk_67 : decode cX8_walk 67 = .ok (.iconst 0, 1) := by decide +kernel
theorem dX8_walk_68 : decode cX8_walk 68 = .ok (.istore 5, 2) := by decide +kernel
theorem dX8_walk_70 : decode cX8_walk 70 = .ok (.iconst 0, 1) := by decide +kernel
theorem dX8_walk_71 : decode cX8_walk 71 = .ok (.istore 6, 2) := by decide +kernel
theorem dX8_walk_73 : decode cX8_walk 73 = .ok (.iload 6, 2) := by decide +kernel
theorem dX8_walk_75 : decode cX8_walk 75 = .ok (.bipush 6, 2) := by decide +kernel
theorem dX8_walk_77 : decode cX8_walk 77 = .ok (.if_icmp .ge 36, 3) := by decide +kernel
theorem dX8_walk_80 : decode cX8_walk 80 = .ok (.iload 4, 2) := by decide +kernel
theorem dX8_walk_82 : decode cX8_walk 82 = .ok (.iload 6, 2) := by decide +kernel
theorem dX8_walk_84 : decode cX8_walk 84 = .ok (.ishr, 1) := by decide +kernel
theorem dX8_walk_85 : decode cX8_walk 85 = .ok (.iconst 1, 1) := by decide +kernel
theorem dX8_walk_86 : decode cX8_walk 86 = .ok (.iand, 1) := by decide +kernel
theorem dX8_walk_87 : decode cX8_walk 87 = .ok (.ifCond .eq 20, 3) := by decide +kernel
theorem dX8_walk_90 : decode cX8_walk 90 = .ok (.aload_n 0, 1) := by decide +kernel
theorem dX8_walk_91 : decode cX8_walk 91 = .ok (.getfield 14, 3) := by decide +kernel
theorem dX8_walk_94 : decode cX8_walk 94 = .ok (.getfield 111, 3) := by decide +kernel
theorem dX8_walk_97 : decode cX8_walk 97 = .ok (.iload_n 3, 1) := by decide +kernel
theorem dX8_walk_98 : decode cX8_walk 98 = .ok (.aaload, 1) := by decide +kernel
theorem dX8_walk_99 : decode cX8_walk 99 = .ok (.iload 5, 2) := by decide +kernel
theorem dX8_walk_101 : decode cX8_walk 101 = .ok (.iinc 5 1, 3) := by decide +kernel
theorem dX8_walk_104 : decode cX8_walk 104 = .ok (.iload 6, 2) := by decide +kernel
theorem dX8_walk_106 : decode cX8_walk 106 = .ok (.iastore, 1) := by decide +kernel
theorem dX8_walk_107 : decode cX8_walk 107 = .ok (.iinc 6 1, 3) := by decide +kernel
theorem dX8_walk_110 : decode cX8_walk 110 = .ok (.goto (-37), 3) := by decide +kernel
theorem dX8_walk_113 : decode cX8_walk 113 = .ok (.iload 5, 2) := by decide +kernel
theorem dX8_walk_115 : decode cX8_walk 115 = .ok (.ireturn, 1) := by decide +kernel
def fX8_walk_107 (k73 : Nat → Int32 → Int32 → Int32 → Int32 → gz_H → Option (Int32 × gz_H)) (a0 : Nat) (x3 : Int32) (x4 : Int32) (x5 : Int32) (x6 : Int32) (h : gz_H) : Option (Int32 × gz_H) :=
    k73 a0 x3 x4 x5 (x6 + 1) h
set_option maxRecDepth 100000 in
set_option maxHeartbeats 1000000 in
theorem sX8_walk_107 {G : gz_G} {d l0 s0 : Nat} {Q : Int32 → gz_H → Prop} {k73 : Nat → Int32 → Int32 → Int32 → Int32 → gz_H → Option (Int32 × gz_H)} (hk73 : ∀ (a0 : Nat) (x3 : Int32) (x4 : Int32) (x5 : Int32) (x6 : Int32) (h : gz_H), gz_g (k73 a0 x3 x4 x5 x6 h) Q → gz_Ok G mX8_walk (d + 4, l0, s0, 0, 0) 73 [.ref a0, .retAddr 0, .retAddr 0, .int x3, .int x4, .int x5, .int x6] [] h (gz_qi Q)) (a0 : Nat) (x3 : Int32) (x4 : Int32) (x5 : Int32) (x6 : Int32) (h : gz_H) (hf : gz_g (fX8_walk_107 k73 a0 x3 x4 x5 x6 h) Q) : gz_Ok G mX8_walk (d + 4, l0, s0, 0, 0) 107 [.ref a0, .retAddr 0, .retAddr 0, .int x3, .int x4, .int x5, .int x6] [] h (gz_qi Q) := by
  unfold fX8_walk_107 at hf
  refine gz_iinc (v := x6 + 1) (lv := [.ref a0, .retAddr 0, .retAddr 0, .int x3, .int x4, .int x5, .int (x6 + 1)]) (pc := 107) dX8_walk_107 rfl rfl (by decide) rfl ?_
  refine gz_goto (tgt := 73) (pc := 110) dX8_walk_110 rfl ?_
  exact hk73 a0 x3 x4 x5 (x6 + 1) h hf
def fX8_walk_73  : Nat → Nat → Int32 → Int32 → Int32 → Int32 → gz_H → Option (Int32 × gz_H)
  | 0, _, _, _, _, _, _ => none
  | n + 1, a0, x3, x4, x5, x6, h =>
    if (6 : Int32) ≤ x6 then (
     some (x5, h)
    ) else (
     if ((x4 >>> (x6 &&& 31)) &&& (1 : Int32)) = 0 then (
      fX8_walk_107 (fun z0 z1 z2 z3 z4 zh => fX8_walk_73 n z0 z1 z2 z3 z4 zh) a0 x3 x4 x5 x6 h
     ) else (
      gz_ck (gz_sh h a0 8 19) <|
      gz_br (h.2.2.2 a0 0) fun r_4 =>
      gz_ck (gz_sh h r_4 7 3) <|
      gz_br (h.2.2.2 r_4 1) fun r_6 =>
      gz_ck (gz_inb h r_6 13 x3) <|
      gz_br (h.2.2.2 r_6 x3.toNatClampNeg) fun r_8 =>
      gz_ck (gz_inb h r_8 10 x5) <|
      gz_lt (uI h r_8 x5.toNatClampNeg x6) fun h_10 =>
      fX8_walk_107 (fun z0 z1 z2 z3 z4 zh => fX8_walk_73 n z0 z1 z2 z3 z4 zh) a0 x3 x4 (x5 + 1) x6 h_10
     )
    )
set_option maxRecDepth 100000 in
set_option maxHeartbeats 1000000 in
theorem sX8_walk_73 {G : gz_G} {d l0 s0 : Nat} {Q : Int32 → gz_H → Prop} : ∀ (n : Nat) (a0 : Nat) (x3 : Int32) (x4 : Int32) (x5 : Int32) (x6 : Int32) (h : gz_H), gz_g (fX8_walk_73  n a0 x3 x4 x5 x6 h) Q → gz_Ok G mX8_walk (d + 4, l0, s0, 0, 0) 73 [.ref a0, .retAddr 0, .retAddr 0, .int x3, .int x4, .int x5, .int x6] [] h (gz_qi Q) := by
  intro n
  induction n with
  | zero => intro a0 x3 x4 x5 x6 h hf; exact False.elim hf
  | succ n ih =>
    intro a0 x3 x4 x5 x6 h hf
    rw [fX8_walk_73] at hf
    refine gz_iload (pc := 73) dX8_walk_73 rfl ?_
    refine gz_bipush (v := (6 : Int32)) (pc := 75) dX8_walk_75 rfl ?_
    refine gz_icmp_ge (tgt := 113) (pc := 77) dX8_walk_77 rfl (fun c_1 => ?_) (fun c_1 => ?_)
    · have hf := gz_gT hf c_1
      refine gz_iload (pc := 113) dX8_walk_113 rfl ?_
      exact gz_irt (pc := 115) dX8_walk_115 rfl rfl hf
    · have hf := gz_gF hf c_1
      refine gz_iload (pc := 80) dX8_walk_80 rfl ?_
      refine gz_iload (pc := 82) dX8_walk_82 rfl ?_
      refine gz_ishr (pc := 84) dX8_walk_84 ?_
      refine gz_iconst (v := (1 : Int32)) (pc := 85) dX8_walk_85 rfl ?_
      refine gz_iand (pc := 86) dX8_walk_86 ?_
      refine gz_if_eq (tgt := 107) (pc := 87) dX8_walk_87 rfl (fun c_2 => ?_) (fun c_2 => ?_)
      · have hf := gz_gT hf c_2
        exact sX8_walk_107 ih a0 x3 x4 x5 x6 h hf
      · have hf := gz_gF hf c_2
        refine gz_aload_n (pc := 90) dX8_walk_90 rfl rfl ?_
        refine gz_gk hf (fun c_3 hf => ?_)
        refine gz_gb hf (fun r_4 er_4 hf => ?_)
        refine gz_getR (pc := 91) dX8_walk_91 fl_RX8_14 rfl (gz_shs c_3) er_4 ?_
        refine gz_gk hf (fun c_5 hf => ?_)
        refine gz_gb hf (fun r_6 er_6 hf => ?_)
        refine gz_getR (pc := 94) dX8_walk_94 fl_RX8_111 rfl (gz_shs c_5) er_6 ?_
        refine gz_iload_n (pc := 97) dX8_walk_97 rfl rfl ?_
        refine gz_gk hf (fun c_7 hf => ?_)
        refine gz_gb hf (fun r_8 er_8 hf => ?_)
        refine gz_aald (Or.inr (Or.inr rfl)) (pc := 98) dX8_walk_98 c_7 er_8 ?_
        refine gz_iload (pc := 99) dX8_walk_99 rfl ?_
        refine gz_iinc (v := x5 + 1) (lv := [.ref a0, .retAddr 0, .retAddr 0, .int x3, .int x4, .int (x5 + 1), .int x6]) (pc := 101) dX8_walk_101 rfl rfl (by decide) rfl ?_
        refine gz_iload (pc := 104) dX8_walk_104 rfl ?_
        refine gz_gk hf (fun c_9 hf => ?_)
        refine gz_iast (pc := 106) dX8_walk_106 c_9 ?_
        refine gz_nmH (fun h_10 eh_10 => ?_)
        have hf := gz_gl eh_10 hf
        exact sX8_walk_107 ih a0 x3 x4 (x5 + 1) x6 h_10 hf
def fX8_walk_0  (a0 : Nat) (x1 : Int32) (x2 : Int32) (x3 : Int32) (h : gz_H) : Option (Int32 × gz_H) :=
    gz_ck (gz_sh h a0 8 19) <|
    gz_br (h.2.2.2 a0 9) fun r_2 =>
    gz_ck (gz_sh h r_2 1 4) <|
    gz_b2 (fX1_hasGoose r_2 x1 h) fun y_4 h_3 =>
    if y_4 = 0 then (
     some ((-1 : Int32), h_3)
    ) else (
     gz_ck (gz_sh h_3 a0 8 19) <|
     gz_br (h_3.2.2.2 a0 9) fun r_8 =>
     gz_ck (gz_sh h_3 r_8 1 4) <|
     gz_b2 (fX1_hasFactSet r_8 x2 h_3) fun y_10 h_9 =>
     if y_10 = 0 then (
      some ((-1 : Int32), h_9)
     ) else (
      gz_ck (gz_sh h_9 a0 8 19) <|
      gz_br (h_9.2.2.2 a0 0) fun r_14 =>
      gz_ck (gz_sh h_9 r_14 7 3) <|
      gz_b2 (fX7_knows r_14 x3 h_9) fun y_16 h_15 =>
      if y_16 = 0 then (
       some ((-1 : Int32), h_15)
      ) else (
       gz_ck (gz_sh h_15 a0 8 19) <|
       gz_b2 (fX8_shortestWalk a0 x1 x2 h_15) fun y_20 h_19 =>
       if y_20 = (-9 : Int32) then (
        some ((-9 : Int32), h_19)
       ) else (
        gz_ck (gz_sh h_19 a0 8 19) <|
        gz_br (h_19.2.2.2 a0 0) fun r_24 =>
        gz_b2 (fJ6_bitCount_0f7a4 y_20 h_19) fun y_26 h_25 =>
        gz_ck (gz_sh h_25 r_24 7 3) <|
        gz_b2 (fX7_make r_24 x3 y_26 (0 : Int32) h_25) fun _ h_27 =>
        fX8_walk_73 gz_fu a0 x3 y_20 (0 : Int32) (0 : Int32) h_27
       )
      )
     )
    )
set_option maxRecDepth 100000 in
set_option maxHeartbeats 1000000 in
theorem sX8_walk_0 {G : gz_G} {d l0 s0 : Nat} {Q : Int32 → gz_H → Prop} (a0 : Nat) (x1 : Int32) (x2 : Int32) (x3 : Int32) (h : gz_H) (hf : gz_g (fX8_walk_0  a0 x1 x2 x3 h) Q) : gz_Ok G mX8_walk (d + 4, l0, s0, 0, 0) 0 [.ref a0, .int x1, .int x2, .int x3, .retAddr 0, .retAddr 0, .retAddr 0] [] h (gz_qi Q) := by
  unfold fX8_walk_0 at hf
  refine gz_aload_n (pc := 0) dX8_walk_0 rfl rfl ?_
  refine gz_gk hf (fun c_1 hf => ?_)
  refine gz_gb hf (fun r_2 er_2 hf => ?_)
  refine gz_getR (pc := 1) dX8_walk_1 fl_RX8_70 rfl (gz_shs c_1) er_2 ?_
  refine gz_iload_n (pc := 4) dX8_walk_4 rfl rfl ?_
  refine gz_gk hf (fun c_5 hf => ?_)
  refine gz_cVI (av := [.int x1]) (st := []) (pc := 5) dX8_walk_5 kl_RX8_150 rfl (gz_shs c_5) rfl rfl (Nat.le_of_ble_eq_true rfl) (by show d + 3 + 0 + 1 ≤ d + 4; omega) (sX1_hasGoose (d := d + 3) (gz_gc hf)) (fun y_4 h_3 hf => ?_)
  refine gz_if_eq (tgt := 33) (pc := 8) dX8_walk_8 rfl (fun c_6 => ?_) (fun c_6 => ?_)
  · have hf := gz_gT hf c_6
    refine gz_iconst (v := (-1 : Int32)) (pc := 33) dX8_walk_33 rfl ?_
    exact gz_irt (pc := 34) dX8_walk_34 rfl rfl hf
  · have hf := gz_gF hf c_6
    refine gz_aload_n (pc := 11) dX8_walk_11 rfl rfl ?_
    refine gz_gk hf (fun c_7 hf => ?_)
    refine gz_gb hf (fun r_8 er_8 hf => ?_)
    refine gz_getR (pc := 12) dX8_walk_12 fl_RX8_70 rfl (gz_shs c_7) er_8 ?_
    refine gz_iload_n (pc := 15) dX8_walk_15 rfl rfl ?_
    refine gz_gk hf (fun c_11 hf => ?_)
    refine gz_cVI (av := [.int x2]) (st := []) (pc := 16) dX8_walk_16 kl_RX8_220 rfl (gz_shs c_11) rfl rfl (Nat.le_of_ble_eq_true rfl) (by show d + 3 + 0 + 1 ≤ d + 4; omega) (sX1_hasFactSet (d := d + 3) (gz_gc hf)) (fun y_10 h_9 hf => ?_)
    refine gz_if_eq (tgt := 33) (pc := 19) dX8_walk_19 rfl (fun c_12 => ?_) (fun c_12 => ?_)
    · have hf := gz_gT hf c_12
      refine gz_iconst (v := (-1 : Int32)) (pc := 33) dX8_walk_33 rfl ?_
      exact gz_irt (pc := 34) dX8_walk_34 rfl rfl hf
    · have hf := gz_gF hf c_12
      refine gz_aload_n (pc := 22) dX8_walk_22 rfl rfl ?_
      refine gz_gk hf (fun c_13 hf => ?_)
      refine gz_gb hf (fun r_14 er_14 hf => ?_)
      refine gz_getR (pc := 23) dX8_walk_23 fl_RX8_14 rfl (gz_shs c_13) er_14 ?_
      refine gz_iload_n (pc := 26) dX8_walk_26 rfl rfl ?_
      refine gz_gk hf (fun c_17 hf => ?_)
      refine gz_cVI (av := [.int x3]) (st := []) (pc := 27) dX8_walk_27 kl_RX8_118 rfl (gz_shs c_17) rfl rfl (Nat.le_of_ble_eq_true rfl) (by show d + 3 + 0 + 1 ≤ d + 4; omega) (sX7_knows (d := d + 3) (gz_gc hf)) (fun y_16 h_15 hf => ?_)
      refine gz_if_ne (tgt := 35) (pc := 30) dX8_walk_30 rfl (fun c_18 => ?_) (fun c_18 => ?_)
      · have hf := gz_gF hf c_18
        refine gz_aload_n (pc := 35) dX8_walk_35 rfl rfl ?_
        refine gz_iload_n (pc := 36) dX8_walk_36 rfl rfl ?_
        refine gz_iload_n (pc := 37) dX8_walk_37 rfl rfl ?_
        refine gz_gk hf (fun c_21 hf => ?_)
        refine gz_cVI (av := [.int x1, .int x2]) (st := []) (pc := 38) dX8_walk_38 kl_RX8_223 rfl (gz_shs c_21) rfl rfl (Nat.le_of_ble_eq_true rfl) (by show d + 0 + 3 + 1 ≤ d + 4; omega) (sX8_shortestWalk (d := d + 0) (gz_gc hf)) (fun y_20 h_19 hf => ?_)
        refine gz_istore (lv := [.ref a0, .int x1, .int x2, .int x3, .int y_20, .retAddr 0, .retAddr 0]) (pc := 41) dX8_walk_41 (by decide) rfl ?_
        refine gz_iload (pc := 43) dX8_walk_43 rfl ?_
        refine gz_bipush (v := (-9 : Int32)) (pc := 45) dX8_walk_45 rfl ?_
        refine gz_icmp_ne (tgt := 53) (pc := 47) dX8_walk_47 rfl (fun c_22 => ?_) (fun c_22 => ?_)
        · have hf := gz_gF hf c_22
          refine gz_aload_n (pc := 53) dX8_walk_53 rfl rfl ?_
          refine gz_gk hf (fun c_23 hf => ?_)
          refine gz_gb hf (fun r_24 er_24 hf => ?_)
          refine gz_getR (pc := 54) dX8_walk_54 fl_RX8_14 rfl (gz_shs c_23) er_24 ?_
          refine gz_iload_n (pc := 57) dX8_walk_57 rfl rfl ?_
          refine gz_iload (pc := 58) dX8_walk_58 rfl ?_
          refine gz_cSI (av := [.int y_20]) (st := [.int x3, .ref r_24]) (pc := 60) dX8_walk_60 kl_RX8_226 rfl rfl (Nat.le_of_ble_eq_true rfl) (by show d + 3 + 0 + 1 ≤ d + 4; omega) (sJ6_bitCount_0f7a4 (d := d + 3) (gz_gc hf)) (fun y_26 h_25 hf => ?_)
          refine gz_iconst (v := (0 : Int32)) (pc := 63) dX8_walk_63 rfl ?_
          refine gz_gk hf (fun c_29 hf => ?_)
          refine gz_cVV (av := [.int x3, .int y_26, .int (0 : Int32)]) (st := []) (pc := 64) dX8_walk_64 kl_RX8_231 rfl (gz_shs c_29) rfl rfl (Nat.le_of_ble_eq_true rfl) (by show d + 2 + 1 + 1 ≤ d + 4; omega) (sX7_make (d := d + 2) (gz_gc hf)) (fun _ h_27 hf => ?_)
          refine gz_iconst (v := (0 : Int32)) (pc := 67) dX8_walk_67 rfl ?_
          refine gz_istore (lv := [.ref a0, .int x1, .int x2, .int x3, .int y_20, .int (0 : Int32), .retAddr 0]) (pc := 68) dX8_walk_68 (by decide) rfl ?_
          refine gz_iconst (v := (0 : Int32)) (pc := 70) dX8_walk_70 rfl ?_
          refine gz_istore (lv := [.ref a0, .int x1, .int x2, .int x3, .int y_20, .int (0 : Int32), .int (0 : Int32)]) (pc := 71) dX8_walk_71 (by decide) rfl ?_
          refine gz_fg (lv := [.ref a0, .retAddr 0, .retAddr 0, .int x3, .int y_20, .int (0 : Int32), .int (0 : Int32)]) ⟨Or.inr rfl, ⟨Or.inl rfl, ⟨Or.inl rfl, ⟨Or.inr rfl, ⟨Or.inr rfl, ⟨Or.inr rfl, ⟨Or.inr rfl, trivial⟩⟩⟩⟩⟩⟩⟩ ?_
          exact sX8_walk_73 gz_fu a0 x3 y_20 (0 : Int32) (0 : Int32) h_27 hf
        · have hf := gz_gT hf c_22
          refine gz_bipush (v := (-9 : Int32)) (pc := 50) dX8_walk_50 rfl ?_
          exact gz_irt (pc := 52) dX8_walk_52 rfl rfl hf
      · have hf := gz_gT hf c_18
        refine gz_iconst (v := (-1 : Int32)) (pc := 33) dX8_walk_33 rfl ?_
        exact gz_irt (pc := 34) dX8_walk_34 rfl rfl hf
def fX8_walk (a0 : Nat) (x1 : Int32) (x2 : Int32) (x3 : Int32) (h : gz_H) : Option (Int32 × gz_H) := fX8_walk_0 a0 x1 x2 x3 h
theorem sX8_walk {G : gz_G} {d : Nat} {a0 : Nat} {x1 : Int32} {x2 : Int32} {x3 : Int32} {h : gz_H} {Q : Int32 → gz_H → Prop} (hf : gz_g (fX8_walk a0 x1 x2 x3 h) Q) : gz_Cl G mX8_walk (d + 4) 0 0 [.ref a0, .int x1, .int x2, .int x3] h (gz_qi Q) := gz_cl_of (lo := [.ref a0, .int x1, .int x2, .int x3, .retAddr 0, .retAddr 0, .retAddr 0]) (by decide) rfl rfl (Nat.le_of_ble_eq_true rfl) (sX8_walk_0 a0 x1 x2 x3 h hf)
theorem dX8_crew_0 : decode cX8_crew 0 = .ok (.aload_n 0, 1) := by decide +kernel
theorem dX8_crew_1 : decode cX8_crew 1 = .ok (.getfield 70, 3) := by decide +kernel
theorem dX8_crew_4 : decode cX8_crew 4 = .ok (.iload_n 1, 1) := by decide +kernel
theorem dX8_crew_5 : decode cX8_crew 5 = .ok (.invokevirtual 220, 3) := by decide +kernel
theorem dX8_crew_8 : decode cX8_crew 8 = .ok (.ifCond .ne 5, 3) := by decide +kernel
theorem dX8_crew_11 : decode cX8_crew 11 = .ok (.iconst (-1), 1) := by decide +kernel
theorem dX8_crew_12 : decode cX8_crew 12 = .ok (.ireturn, 1) := by decide +kernel
theorem dX8_crew_13 : decode cX8_crew 13 = .ok (.aload_n 0, 1) := by decide +kernel
theorem dX8_crew_14 : decode cX8_crew 14 = .ok (.invokevirtual 197, 3) := by decide +kernel
theorem dX8_crew_17 : decode cX8_crew 17 = .ok (.bipush (-9), 2) := by decide +kernel
theorem dX8_crew_19 : decode cX8_crew 19 = .ok (.istore_n 2, 1) := by decide +kernel
theorem dX8_crew_20 : decode cX8_crew 20 = .ok (.iconst 0, 1) := by decide +kernel
theorem dX8_crew_21 : decode cX8_crew 21 = .ok (.istore_n 3, 1) := by decide +kernel
theorem dX8_crew_22 : decode cX8_crew 22 = .ok (.iload_n 3, 1) := by decide +kernel
theorem dX8_crew_23 : decode cX8_crew 23 = .ok (.iconst 1, 1) := by decide +kernel
theorem dX8_crew_24 : decode cX8_crew 24 = .ok (.aload_n 0, 1) := by decide +kernel
theorem dX8_crew_25 : decode cX8_crew 25 = .ok (.getfield 70, 3) := by decide +kernel
theorem dX8_crew_28 : decode cX8_crew 28 = .ok (.getfield 149, 3) := by decide +kernel
theorem dX8_crew_31 : decode cX8_crew 31 = .ok (.ishl, 1) := by decide +kernel
theorem dX8_crew_32 : decode cX8_crew 32 = .ok (.if_icmp .ge 55, 3) := by decide +kernel
theorem dX8_crew_35 : decode cX8_crew 35 = .ok (.iload_n 2, 1) := by decide +kernel
theorem dX8_crew_36 : decode cX8_crew 36 = .ok (.bipush (-9), 2) := by decide +kernel
theorem dX8_crew_38 : decode cX8_crew 38 = .ok (.if_icmp .eq 14, 3) := by decide +kernel
theorem dX8_crew_41 : decode cX8_crew 41 = .ok (.iload_n 3, 1) := by decide +kernel
theorem dX8_crew_42 : decode cX8_crew 42 = .ok (.invokestatic 226, 3) := by decide +kernel
theorem dX8_crew_45 : decode cX8_crew 45 = .ok (.iload_n 2, 1) := by decide +kernel
theorem dX8_crew_46 : decode cX8_crew 46 = .ok (.invokestatic 226, 3) := by decide +kernel
theorem dX8_crew_49 : decode cX8_crew 49 = .ok (.if_icmp .ge 7, 3) := by decide +kernel
theorem dX8_crew_52 : decode cX8_crew 52 = .ok (.iconst 1, 1) := by decide +kernel
theorem dX8_crew_53 : decode cX8_crew 53 = .ok (.goto 4, 3) := by decide +kernel
theorem dX8_crew_56 : decode cX8_crew 56 = .ok (.iconst 0, 1) := by decide +kernel
theorem dX8_crew_57 : decode cX8_crew 57 = .ok (.istore 4, 2) := by decide +kernel
theorem dX8_crew_59 : decode cX8_crew 59 = .ok (.iload 4, 2) := by decide +kernel
theorem dX8_crew_61 : decode cX8_crew 61 = .ok (.ifCond .eq 20, 3) := by decide +kernel
theorem dX8_crew_64 : decode cX8_crew 64 = .ok (.iload_n 1, 1) := by decide +kernel
theorem dX8_crew_65 : decode cX8_crew 65 = .ok (.aload_n 0, 1) := by decide +kernel
theorem dX8_crew_66 : decode cX8_crew 66 = .ok (.getfield 80, 3) := by decide +kernel
theorem dX8_crew_69 : decode cX8_crew 69 = .ok (.iload_n 3, 1) := by decide +kernel
theorem dX8_crew_70 : decode cX8_crew 70 = .ok (.invokestatic 200, 3) := by decide +kernel
theorem dX8_crew_73 : decode cX8_crew 73 = .ok (.iconst (-1), 1) := by decide +kernel
theorem dX8_crew_74 : decode cX8_crew 74 = .ok (.ixor, 1) := by decide +kernel
theorem dX8_crew_75 : decode cX8_crew 75 = .ok (.iand, 1) := by decide +kernel
theorem dX8_crew_76 : decode cX8_crew 76 = .ok (.ifCond .ne 5, 3) := by decide +kernel
theorem dX8_crew_79 : decode cX8_crew 79 = .ok (.iload_n 3, 1) := by decide +kernel
theorem dX8_crew_80 : decode cX8_crew 80 = .ok (.istore_n 2, 1) := by decide +kernel
theorem dX8_crew_81 : decode cX8_crew 81 = .ok (.iinc 3 1, 3) := by decide +kernel
theorem dX8_crew_84 : decode cX8_crew 84 = .ok (.goto (-62), 3) := by decide +kernel
theorem dX8_crew_87 : decode cX8_crew 87 = .ok (.iload_n 2, 1) := by decide +kernel
theorem dX8_crew_88 : decode cX8_crew 88 = .ok (.bipush (-9), 2) := by decide +kernel
theorem dX8_crew_90 : decode cX8_crew 90 = .ok (.if_icmp .ne 6, 3) := by decide +kernel
theorem dX8_crew_93 : decode cX8_crew 93 = .ok (.bipush (-9), 2) := by decide +kernel
theorem dX8_crew_95 : decode cX8_crew 95 = .ok (.ireturn, 1) := by decide +kernel
theorem dX8_crew_96 : decode cX8_crew 96 = .ok (.aload_n 0, 1) := by decide +kernel
theorem dX8_crew_97 : decode cX8_crew 97 = .ok (.iload_n 2, 1) := by decide +kernel
theorem dX8_crew_98 : decode cX8_crew 98 = .ok (.putfield 115, 3) := by decide +kernel
theorem dX8_crew_101 : decode cX8_crew 101 = .ok (.iload_n 2, 1) := by decide +kernel
theorem dX8_crew_102 : decode cX8_crew 102 = .ok (.invokestatic 226, 3) := by decide +kernel
theorem dX8_crew_105 : decode cX8_crew 105 = .ok (.ireturn, 1) := by decide +kernel
def fX8_crew_81 (k22 : Nat → Int32 → Int32 → Int32 → gz_H → Option (Int32 × gz_H)) (a0 : Nat) (x1 : Int32) (x2 : Int32) (x3 : Int32) (h : gz_H) : Option (Int32 × gz_H) :=
    k22 a0 x1 x2 (x3 + 1) h
set_option maxRecDepth 100000 in
set_option maxHeartbeats 1000000 in
theorem sX8_crew_81 {G : gz_G} {d l0 s0 : Nat} {Q : Int32 → gz_H → Prop} {k22 : Nat → Int32 → Int32 → Int32 → gz_H → Option (Int32 × gz_H)} (hk22 : ∀ (a0 : Nat) (x1 : Int32) (x2 : Int32) (x3 : Int32) (h : gz_H), gz_g (k22 a0 x1 x2 x3 h) Q → gz_Ok G mX8_crew (d + 5, l0, s0, 0, 0) 22 [.ref a0, .int x1, .int x2, .int x3, .retAddr 0] [] h (gz_qi Q)) (a0 : Nat) (x1 : Int32) (x2 : Int32) (x3 : Int32) (h : gz_H) (hf : gz_g (fX8_crew_81 k22 a0 x1 x2 x3 h) Q) : gz_Ok G mX8_crew (d + 5, l0, s0, 0, 0) 81 [.ref a0, .int x1, .int x2, .int x3, .retAddr 0] [] h (gz_qi Q) := by
  unfold fX8_crew_81 at hf
  refine gz_iinc (v := x3 + 1) (lv := [.ref a0, .int x1, .int x2, .int (x3 + 1), .retAddr 0]) (pc := 81) dX8_crew_81 rfl rfl (by decide) rfl ?_
  refine gz_goto (tgt := 22) (pc := 84) dX8_crew_84 rfl ?_
  exact hk22 a0 x1 x2 (x3 + 1) h hf
def fX8_crew_57 (k22 : Nat → Int32 → Int32 → Int32 → gz_H → Option (Int32 × gz_H)) (a0 : Nat) (x1 : Int32) (x2 : Int32) (x3 : Int32) (w0 : Int32) (h : gz_H) : Option (Int32 × gz_H) :=
    if w0 = 0 then (
     fX8_crew_81 k22 a0 x1 x2 x3 h
    ) else (
     gz_ck (gz_sh h a0 8 19) <|
     gz_br (h.2.2.2 a0 12) fun r_3 =>
     gz_b2 (fX8_joined r_3 x3 h) fun y_5 h_4 =>
     if (x1 &&& (y_5 ^^^ (-1 : Int32))) = 0 then (
      fX8_crew_81 k22 a0 x1 x3 x3 h_4
     ) else (
      fX8_crew_81 k22 a0 x1 x2 x3 h_4
     )
    )
set_option maxRecDepth 100000 in
set_option maxHeartbeats 1000000 in
theorem sX8_crew_57 {G : gz_G} {d l0 s0 : Nat} {Q : Int32 → gz_H → Prop} {k22 : Nat → Int32 → Int32 → Int32 → gz_H → Option (Int32 × gz_H)} (hk22 : ∀ (a0 : Nat) (x1 : Int32) (x2 : Int32) (x3 : Int32) (h : gz_H), gz_g (k22 a0 x1 x2 x3 h) Q → gz_Ok G mX8_crew (d + 5, l0, s0, 0, 0) 22 [.ref a0, .int x1, .int x2, .int x3, .retAddr 0] [] h (gz_qi Q)) (a0 : Nat) (x1 : Int32) (x2 : Int32) (x3 : Int32) (w0 : Int32) (h : gz_H) (hf : gz_g (fX8_crew_57 k22 a0 x1 x2 x3 w0 h) Q) : gz_Ok G mX8_crew (d + 5, l0, s0, 0, 0) 57 [.ref a0, .int x1, .int x2, .int x3, .retAddr 0] [.int w0] h (gz_qi Q) := by
  unfold fX8_crew_57 at hf
  refine gz_istore (lv := [.ref a0, .int x1, .int x2, .int x3, .int w0]) (pc := 57) dX8_crew_57 (by decide) rfl ?_
  refine gz_iload (pc := 59) dX8_crew_59 rfl ?_
  refine gz_if_eq (tgt := 81) (pc := 61) dX8_crew_61 rfl (fun c_1 => ?_) (fun c_1 => ?_)
  · have hf := gz_gT hf c_1
    refine gz_fg (lv := [.ref a0, .int x1, .int x2, .int x3, .retAddr 0]) ⟨Or.inr rfl, ⟨Or.inr rfl, ⟨Or.inr rfl, ⟨Or.inr rfl, ⟨Or.inl rfl, trivial⟩⟩⟩⟩⟩ ?_
    exact sX8_crew_81 hk22 a0 x1 x2 x3 h hf
  · have hf := gz_gF hf c_1
    refine gz_iload_n (pc := 64) dX8_crew_64 rfl rfl ?_
    refine gz_aload_n (pc := 65) dX8_crew_65 rfl rfl ?_
    refine gz_gk hf (fun c_2 hf => ?_)
    refine gz_gb hf (fun r_3 er_3 hf => ?_)
    refine gz_getR (pc := 66) dX8_crew_66 fl_RX8_80 rfl (gz_shs c_2) er_3 ?_
    refine gz_iload_n (pc := 69) dX8_crew_69 rfl rfl ?_
    refine gz_cSI (av := [.ref r_3, .int x3]) (st := [.int x1]) (pc := 70) dX8_crew_70 kl_RX8_200 rfl rfl (Nat.le_of_ble_eq_true rfl) (by show d + 4 + 0 + 1 ≤ d + 5; omega) (sX8_joined (d := d + 4) (gz_gc hf)) (fun y_5 h_4 hf => ?_)
    refine gz_iconst (v := (-1 : Int32)) (pc := 73) dX8_crew_73 rfl ?_
    refine gz_ixor (pc := 74) dX8_crew_74 ?_
    refine gz_iand (pc := 75) dX8_crew_75 ?_
    refine gz_if_ne (tgt := 81) (pc := 76) dX8_crew_76 rfl (fun c_6 => ?_) (fun c_6 => ?_)
    · have hf := gz_gF hf c_6
      refine gz_fg (lv := [.ref a0, .int x1, .int x2, .int x3, .retAddr 0]) ⟨Or.inr rfl, ⟨Or.inr rfl, ⟨Or.inr rfl, ⟨Or.inr rfl, ⟨Or.inl rfl, trivial⟩⟩⟩⟩⟩ ?_
      exact sX8_crew_81 hk22 a0 x1 x2 x3 h_4 hf
    · have hf := gz_gT hf c_6
      refine gz_iload_n (pc := 79) dX8_crew_79 rfl rfl ?_
      refine gz_istore_n (lv := [.ref a0, .int x1, .int x3, .int x3, .int w0]) (pc := 80) dX8_crew_80 rfl (by decide) rfl ?_
      refine gz_fg (lv := [.ref a0, .int x1, .int x3, .int x3, .retAddr 0]) ⟨Or.inr rfl, ⟨Or.inr rfl, ⟨Or.inr rfl, ⟨Or.inr rfl, ⟨Or.inl rfl, trivial⟩⟩⟩⟩⟩ ?_
      exact sX8_crew_81 hk22 a0 x1 x3 x3 h_4 hf
def fX8_crew_52 (k22 : Nat → Int32 → Int32 → Int32 → gz_H → Option (Int32 × gz_H)) (a0 : Nat) (x1 : Int32) (x2 : Int32) (x3 : Int32) (h : gz_H) : Option (Int32 × gz_H) :=
    fX8_crew_57 k22 a0 x1 x2 x3 (1 : Int32) h
set_option maxRecDepth 100000 in
set_option maxHeartbeats 1000000 in
theorem sX8_crew_52 {G : gz_G} {d l0 s0 : Nat} {Q : Int32 → gz_H → Prop} {k22 : Nat → Int32 → Int32 → Int32 → gz_H → Option (Int32 × gz_H)} (hk22 : ∀ (a0 : Nat) (x1 : Int32) (x2 : Int32) (x3 : Int32) (h : gz_H), gz_g (k22 a0 x1 x2 x3 h) Q → gz_Ok G mX8_crew (d + 5, l0, s0, 0, 0) 22 [.ref a0, .int x1, .int x2, .int x3, .retAddr 0] [] h (gz_qi Q)) (a0 : Nat) (x1 : Int32) (x2 : Int32) (x3 : Int32) (h : gz_H) (hf : gz_g (fX8_crew_52 k22 a0 x1 x2 x3 h) Q) : gz_Ok G mX8_crew (d + 5, l0, s0, 0, 0) 52 [.ref a0, .int x1, .int x2, .int x3, .retAddr 0] [] h (gz_qi Q) := by
  unfold fX8_crew_52 at hf
  refine gz_iconst (v := (1 : Int32)) (pc := 52) dX8_crew_52 rfl ?_
  refine gz_goto (tgt := 57) (pc := 53) dX8_crew_53 rfl ?_
  exact sX8_crew_57 hk22 a0 x1 x2 x3 (1 : Int32) h hf
def fX8_crew_22  : Nat → Nat → Int32 → Int32 → Int32 → gz_H → Option (Int32 × gz_H)
  | 0, _, _, _, _, _ => none
  | n + 1, a0, x1, x2, x3, h =>
    gz_ck (gz_sh h a0 8 19) <|
    gz_br (h.2.2.2 a0 9) fun r_2 =>
    gz_ck (gz_sh h r_2 1 4) <|
    if ((1 : Int32) <<< ((h.2.1 r_2 3) &&& 31)) ≤ x3 then (
     if x2 = (-9 : Int32) then (
      some ((-9 : Int32), h)
     ) else (
      gz_lt (uI h a0 18 x2) fun h_6 =>
      gz_b2 (fJ6_bitCount_0f7a4 x2 h_6) fun y_8 h_7 =>
      some (y_8, h_7)
     )
    ) else (
     if x2 = (-9 : Int32) then (
      fX8_crew_52 (fun z0 z1 z2 z3 zh => fX8_crew_22 n z0 z1 z2 z3 zh) a0 x1 x2 x3 h
     ) else (
      gz_b2 (fJ6_bitCount_0f7a4 x3 h) fun y_11 h_10 =>
      gz_b2 (fJ6_bitCount_0f7a4 x2 h_10) fun y_13 h_12 =>
      if y_13 ≤ y_11 then (
       fX8_crew_57 (fun z0 z1 z2 z3 zh => fX8_crew_22 n z0 z1 z2 z3 zh) a0 x1 x2 x3 (0 : Int32) h_12
      ) else (
       fX8_crew_52 (fun z0 z1 z2 z3 zh => fX8_crew_22 n z0 z1 z2 z3 zh) a0 x1 x2 x3 h_12
      )
     )
    )
set_option maxRecDepth 100000 in
set_option maxHeartbeats 1000000 in
theorem sX8_crew_22 {G : gz_G} {d l0 s0 : Nat} {Q : Int32 → gz_H → Prop} : ∀ (n : Nat) (a0 : Nat) (x1 : Int32) (x2 : Int32) (x3 : Int32) (h : gz_H), gz_g (fX8_crew_22  n a0 x1 x2 x3 h) Q → gz_Ok G mX8_crew (d + 5, l0, s0, 0, 0) 22 [.ref a0, .int x1, .int x2, .int x3, .retAddr 0] [] h (gz_qi Q) := by
  intro n
  induction n with
  | zero => intro a0 x1 x2 x3 h hf; exact False.elim hf
  | succ n ih =>
    intro a0 x1 x2 x3 h hf
    rw [fX8_crew_22] at hf
    refine gz_iload_n (pc := 22) dX8_crew_22 rfl rfl ?_
    refine gz_iconst (v := (1 : Int32)) (pc := 23) dX8_crew_23 rfl ?_
    refine gz_aload_n (pc := 24) dX8_crew_24 rfl rfl ?_
    refine gz_gk hf (fun c_1 hf => ?_)
    refine gz_gb hf (fun r_2 er_2 hf => ?_)
    refine gz_getR (pc := 25) dX8_crew_25 fl_RX8_70 rfl (gz_shs c_1) er_2 ?_
    refine gz_gk hf (fun c_3 hf => ?_)
    refine gz_getI (pc := 28) dX8_crew_28 fl_RX8_149 rfl (gz_shs c_3) ?_
    refine gz_ishl (pc := 31) dX8_crew_31 ?_
    refine gz_icmp_ge (tgt := 87) (pc := 32) dX8_crew_32 rfl (fun c_4 => ?_) (fun c_4 => ?_)
    · have hf := gz_gT hf c_4
      refine gz_iload_n (pc := 87) dX8_crew_87 rfl rfl ?_
      refine gz_bipush (v := (-9 : Int32)) (pc := 88) dX8_crew_88 rfl ?_
      refine gz_icmp_ne (tgt := 96) (pc := 90) dX8_crew_90 rfl (fun c_5 => ?_) (fun c_5 => ?_)
      · have hf := gz_gF hf c_5
        refine gz_aload_n (pc := 96) dX8_crew_96 rfl rfl ?_
        refine gz_iload_n (pc := 97) dX8_crew_97 rfl rfl ?_
        refine gz_putI (pc := 98) dX8_crew_98 fw_X8_crew_115 rfl rfl rfl (gz_shs c_1) ?_
        refine gz_nmH (fun h_6 eh_6 => ?_)
        have hf := gz_gl eh_6 hf
        refine gz_iload_n (pc := 101) dX8_crew_101 rfl rfl ?_
        refine gz_cSI (av := [.int x2]) (st := []) (pc := 102) dX8_crew_102 kl_RX8_226 rfl rfl (Nat.le_of_ble_eq_true rfl) (by show d + 4 + 0 + 1 ≤ d + 5; omega) (sJ6_bitCount_0f7a4 (d := d + 4) (gz_gc hf)) (fun y_8 h_7 hf => ?_)
        exact gz_irt (pc := 105) dX8_crew_105 rfl rfl hf
      · have hf := gz_gT hf c_5
        refine gz_bipush (v := (-9 : Int32)) (pc := 93) dX8_crew_93 rfl ?_
        exact gz_irt (pc := 95) dX8_crew_95 rfl rfl hf
    · have hf := gz_gF hf c_4
      refine gz_iload_n (pc := 35) dX8_crew_35 rfl rfl ?_
      refine gz_bipush (v := (-9 : Int32)) (pc := 36) dX8_crew_36 rfl ?_
      refine gz_icmp_eq (tgt := 52) (pc := 38) dX8_crew_38 rfl (fun c_9 => ?_) (fun c_9 => ?_)
      · have hf := gz_gT hf c_9
        exact sX8_crew_52 ih a0 x1 x2 x3 h hf
      · have hf := gz_gF hf c_9
        refine gz_iload_n (pc := 41) dX8_crew_41 rfl rfl ?_
        refine gz_cSI (av := [.int x3]) (st := []) (pc := 42) dX8_crew_42 kl_RX8_226 rfl rfl (Nat.le_of_ble_eq_true rfl) (by show d + 4 + 0 + 1 ≤ d + 5; omega) (sJ6_bitCount_0f7a4 (d := d + 4) (gz_gc hf)) (fun y_11 h_10 hf => ?_)
        refine gz_iload_n (pc := 45) dX8_crew_45 rfl rfl ?_
        refine gz_cSI (av := [.int x2]) (st := [.int y_11]) (pc := 46) dX8_crew_46 kl_RX8_226 rfl rfl (Nat.le_of_ble_eq_true rfl) (by show d + 4 + 0 + 1 ≤ d + 5; omega) (sJ6_bitCount_0f7a4 (d := d + 4) (gz_gc hf)) (fun y_13 h_12 hf => ?_)
        refine gz_icmp_ge (tgt := 56) (pc := 49) dX8_crew_49 rfl (fun c_14 => ?_) (fun c_14 => ?_)
        · have hf := gz_gT hf c_14
          refine gz_iconst (v := (0 : Int32)) (pc := 56) dX8_crew_56 rfl ?_
          exact sX8_crew_57 ih a0 x1 x2 x3 (0 : Int32) h_12 hf
        · have hf := gz_gF hf c_14
          exact sX8_crew_52 ih a0 x1 x2 x3 h_12 hf
def fX8_crew_0  (a0 : Nat) (x1 : Int32) (h : gz_H) : Option (Int32 × gz_H) :=
    gz_ck (gz_sh h a0 8 19) <|
    gz_br (h.2.2.2 a0 9) fun r_2 =>
    gz_ck (gz_sh h r_2 1 4) <|
    gz_b2 (fX1_hasFactSet r_2 x1 h) fun y_4 h_3 =>
    if y_4 = 0 then (
     some ((-1 : Int32), h_3)
    ) else (
     gz_ck (gz_sh h_3 a0 8 19) <|
     gz_b2 (fX8_hearAll a0 h_3) fun _ h_7 =>
     fX8_crew_22 gz_fu a0 x1 (-9 : Int32) (0 : Int32) h_7
    )
set_option maxRecDepth 100000 in
set_option maxHeartbeats 1000000 in
theorem sX8_crew_0 {G : gz_G} {d l0 s0 : Nat} {Q : Int32 → gz_H → Prop} (a0 : Nat) (x1 : Int32) (h : gz_H) (hf : gz_g (fX8_crew_0  a0 x1 h) Q) : gz_Ok G mX8_crew (d + 5, l0, s0, 0, 0) 0 [.ref a0, .int x1, .retAddr 0, .retAddr 0, .retAddr 0] [] h (gz_qi Q) := by
  unfold fX8_crew_0 at hf
  refine gz_aload_n (pc := 0) dX8_crew_0 rfl rfl ?_
  refine gz_gk hf (fun c_1 hf => ?_)
  refine gz_gb hf (fun r_2 er_2 hf => ?_)
  refine gz_getR (pc := 1) dX8_crew_1 fl_RX8_70 rfl (gz_shs c_1) er_2 ?_
  refine gz_iload_n (pc := 4) dX8_crew_4 rfl rfl ?_
  refine gz_gk hf (fun c_5 hf => ?_)
  refine gz_cVI (av := [.int x1]) (st := []) (pc := 5) dX8_crew_5 kl_RX8_220 rfl (gz_shs c_5) rfl rfl (Nat.le_of_ble_eq_true rfl) (by show d + 4 + 0 + 1 ≤ d + 5; omega) (sX1_hasFactSet (d := d + 4) (gz_gc hf)) (fun y_4 h_3 hf => ?_)
  refine gz_if_ne (tgt := 13) (pc := 8) dX8_crew_8 rfl (fun c_6 => ?_) (fun c_6 => ?_)
  · have hf := gz_gF hf c_6
    refine gz_aload_n (pc := 13) dX8_crew_13 rfl rfl ?_
    refine gz_gk hf (fun c_9 hf => ?_)
    refine gz_cVV (av := []) (st := []) (pc := 14) dX8_crew_14 kl_RX8_197 rfl (gz_shs c_9) rfl rfl (Nat.le_of_ble_eq_true rfl) (by show d + 0 + 4 + 1 ≤ d + 5; omega) (sX8_hearAll (d := d + 0) (gz_gc hf)) (fun _ h_7 hf => ?_)
    refine gz_bipush (v := (-9 : Int32)) (pc := 17) dX8_crew_17 rfl ?_
    refine gz_istore_n (lv := [.ref a0, .int x1, .int (-9 : Int32), .retAddr 0, .retAddr 0]) (pc := 19) dX8_crew_19 rfl (by decide) rfl ?_
    refine gz_iconst (v := (0 : Int32)) (pc := 20) dX8_crew_20 rfl ?_
    refine gz_istore_n (lv := [.ref a0, .int x1, .int (-9 : Int32), .int (0 : Int32), .retAddr 0]) (pc := 21) dX8_crew_21 rfl (by decide) rfl ?_
    exact sX8_crew_22 gz_fu a0 x1 (-9 : Int32) (0 : Int32) h_7 hf
  · have hf := gz_gT hf c_6
    refine gz_iconst (v := (-1 : Int32)) (pc := 11) dX8_crew_11 rfl ?_
    exact gz_irt (pc := 12) dX8_crew_12 rfl rfl hf
def fX8_crew (a0 : Nat) (x1 : Int32) (h : gz_H) : Option (Int32 × gz_H) := fX8_crew_0 a0 x1 h
theorem sX8_crew {G : gz_G} {d : Nat} {a0 : Nat} {x1 : Int32} {h : gz_H} {Q : Int32 → gz_H → Prop} (hf : gz_g (fX8_crew a0 x1 h) Q) : gz_Cl G mX8_crew (d + 5) 0 0 [.ref a0, .int x1] h (gz_qi Q) := gz_cl_of (lo := [.ref a0, .int x1, .retAddr 0, .retAddr 0, .retAddr 0]) (by decide) rfl rfl (Nat.le_of_ble_eq_true rfl) (sX8_crew_0 a0 x1 h hf)
theorem dX8_cheapest_0 : decode cX8_cheapest 0 = .ok (.iload_n 1, 1) := by decide +kernel
theorem dX8_cheapest_1 : decode cX8_cheapest 1 = .ok (.iload_n 1, 1) := by decide +kernel
theorem dX8_cheapest_2 : decode cX8_cheapest 2 = .ok (.ineg, 1) := by decide +kernel
theorem dX8_cheapest_3 : decode cX8_cheapest 3 = .ok (.iand, 1) := by decide +kernel
theorem dX8_cheapest_4 : decode cX8_cheapest 4 = .ok (.istore_n 3, 1) := by decide +kernel
theorem dX8_cheapest_5 : decode cX8_cheapest 5 = .ok (.sipush 1000, 3) := by decide +kernel
theorem dX8_cheapest_8 : decode cX8_cheapest 8 = .ok (.istore 4, 2) := by decide +kernel
theorem dX8_cheapest_10 : decode cX8_cheapest 10 = .ok (.iconst 0, 1) := by decide +kernel
theorem dX8_cheapest_11 : decode cX8_cheapest 11 = .ok (.istore 5, 2) := by decide +kernel
theorem dX8_cheapest_13 : decode cX8_cheapest 13 = .ok (.iload 5, 2) := by decide +kernel
theorem dX8_cheapest_15 : decode cX8_cheapest 15 = .ok (.iload_n 2, 1) := by decide +kernel
theorem dX8_cheapest_16 : decode cX8_cheapest 16 = .ok (.if_icmp .ge 56, 3) := by decide +kernel
theorem dX8_cheapest_19 : decode cX8_cheapest 19 = .ok (.iload 5, 2) := by decide +kernel
theorem dX8_cheapest_21 : decode cX8_cheapest 21 = .ok (.aload_n 0, 1) := by decide +kernel
theorem dX8_cheapest_22 : decode cX8_cheapest 22 = .ok (.getfield 87, 3) := by decide +kernel
theorem dX8_cheapest_25 : decode cX8_cheapest 25 = .ok (.arraylength, 1) := by decide +kernel
theorem dX8_cheapest_26 : decode cX8_cheapest 26 = .ok (.if_icmp .ge 46, 3) := by decide +kernel
theorem dX8_cheapest_29 : decode cX8_cheapest 29 = .ok (.aload_n 0, 1) := by decide +kernel
theorem dX8_cheapest_30 : decode cX8_cheapest 30 = .ok (.getfield 87, 3) := by decide +kernel
theorem dX8_cheapest_33 : decode cX8_cheapest 33 = .ok (.iload 5, 2) := by decide +kernel
theorem dX8_cheapest_35 : decode cX8_cheapest 35 = .ok (.iaload, 1) := by decide +kernel
theorem dX8_cheapest_36 : decode cX8_cheapest 36 = .ok (.iload_n 3, 1) := by decide +kernel
theorem dX8_cheapest_37 : decode cX8_cheapest 37 = .ok (.iand, 1) := by decide +kernel
theorem dX8_cheapest_38 : decode cX8_cheapest 38 = .ok (.ifCond .eq 28, 3) := by decide +kernel
theorem dX8_cheapest_41 : decode cX8_cheapest 41 = .ok (.iload 4, 2) := by decide +kernel
theorem dX8_cheapest_43 : decode cX8_cheapest 43 = .ok (.aload_n 0, 1) := by decide +kernel
theorem dX8_cheapest_44 : decode cX8_cheapest 44 = .ok (.getfield 90, 3) := by decide +kernel
theorem dX8_cheapest_47 : decode cX8_cheapest 47 = .ok (.iload_n 1, 1) := by decide +kernel
theorem dX8_cheapest_48 : decode cX8_cheapest 48 = .ok (.aload_n 0, 1) := by decide +kernel
theorem dX8_cheapest_49 : decode cX8_cheapest 49 = .ok (.getfield 87, 3) := by decide +kernel
theorem dX8_cheapest_52 : decode cX8_cheapest 52 = .ok (.iload 5, 2) := by decide +kernel
theorem dX8_cheapest_54 : decode cX8_cheapest 54 = .ok (.iaload, 1) := by decide +kernel
theorem dX8_cheapest_55 : decode cX8_cheapest 55 = .ok (.iconst (-1), 1) := by decide +kernel
theorem dX8_cheapest_56 : decode cX8_cheapest 56 = .ok (.ixor, 1) := by decide +kernel
theorem dX8_cheapest_57 : decode cX8_cheapest 57 = .ok (.iand, 1) := by decide +kernel
theorem dX8_cheapest_58 : decode cX8_cheapest 58 = .ok (.iaload, 1) := by decide +kernel
theorem dX8_cheapest_59 : decode cX8_cheapest 59 = .ok (.iconst 1, 1) := by decide +kernel
theorem dX8_cheapest_60 : decode cX8_cheapest 60 = .ok (.iadd, 1) := by decide +kernel
theorem dX8_cheapest_61 : decode cX8_cheapest 61 = .ok (.invokestatic 382, 3) := by decide +kernel
theorem dX8_cheapest_64 : decode cX8_cheapest 64 = .ok (.istore 4, 2) := by decide +kernel
theorem dX8_cheapest_66 : decode cX8_cheapest 66 = .ok (.iinc 5 1, 3) := by decide +kernel
theorem dX8_cheapest_69 : decode cX8_cheapest 69 = .ok (.goto (-56), 3) := by decide +kernel
theorem dX8_cheapest_72 : decode cX8_cheapest 72 = .ok (.iload 4, 2) := by decide +kernel
theorem dX8_cheapest_74 : decode cX8_cheapest 74 = .ok (.ireturn, 1) := by decide +kernel
def fX8_cheapest_66 (k13 : Nat → Int32 → Int32 → Int32 → Int32 → Int32 → gz_H → Option (Int32 × gz_H)) (a0 : Nat) (x1 : Int32) (x2 : Int32) (x3 : Int32) (x4 : Int32) (x5 : Int32) (h : gz_H) : Option (Int32 × gz_H) :=
    k13 a0 x1 x2 x3 x4 (x5 + 1) h
set_option maxRecDepth 100000 in
set_option maxHeartbeats 1000000 in
theorem sX8_cheapest_66 {G : gz_G} {d l0 s0 : Nat} {Q : Int32 → gz_H → Prop} {k13 : Nat → Int32 → Int32 → Int32 → Int32 → Int32 → gz_H → Option (Int32 × gz_H)} (hk13 : ∀ (a0 : Nat) (x1 : Int32) (x2 : Int32) (x3 : Int32) (x4 : Int32) (x5 : Int32) (h : gz_H), gz_g (k13 a0 x1 x2 x3 x4 x5 h) Q → gz_Ok G mX8_cheapest (d + 1, l0, s0, 0, 0) 13 [.ref a0, .int x1, .int x2, .int x3, .int x4, .int x5] [] h (gz_qi Q)) (a0 : Nat) (x1 : Int32) (x2 : Int32) (x3 : Int32) (x4 : Int32) (x5 : Int32) (h : gz_H) (hf : gz_g (fX8_cheapest_66 k13 a0 x1 x2 x3 x4 x5 h) Q) : gz_Ok G mX8_cheapest (d + 1, l0, s0, 0, 0) 66 [.ref a0, .int x1, .int x2, .int x3, .int x4, .int x5] [] h (gz_qi Q) := by
  unfold fX8_cheapest_66 at hf
  refine gz_iinc (v := x5 + 1) (lv := [.ref a0, .int x1, .int x2, .int x3, .int x4, .int (x5 + 1)]) (pc := 66) dX8_cheapest_66 rfl rfl (by decide) rfl ?_
  refine gz_goto (tgt := 13) (pc := 69) dX8_cheapest_69 rfl ?_
  exact hk13 a0 x1 x2 x3 x4 (x5 + 1) h hf
def fX8_cheapest_13  : Nat → Nat → Int32 → Int32 → Int32 → Int32 → Int32 → gz_H → Option (Int32 × gz_H)
  | 0, _, _, _, _, _, _, _ => none
  | n + 1, a0, x1, x2, x3, x4, x5, h =>
    if x2 ≤ x5 then (
     some (x4, h)
    ) else (
     gz_ck (gz_sh h a0 8 19) <|
     gz_br (h.2.2.2 a0 14) fun r_3 =>
     gz_bi (gz_len h r_3) fun y_4 =>
     if y_4 ≤ x5 then (
      some (x4, h)
     ) else (
      gz_ck (gz_inb h r_3 10 x5) <|
      if ((h.2.1 r_3 x5.toNatClampNeg) &&& x3) = 0 then (
       fX8_cheapest_66 (fun z0 z1 z2 z3 z4 z5 zh => fX8_cheapest_13 n z0 z1 z2 z3 z4 z5 zh) a0 x1 x2 x3 x4 x5 h
      ) else (
       gz_br (h.2.2.2 a0 15) fun r_8 =>
       gz_ck (gz_inb h r_8 10 (x1 &&& ((h.2.1 r_3 x5.toNatClampNeg) ^^^ (-1 : Int32)))) <|
       gz_lt (gz_mn2 x4 ((h.2.1 r_8 (x1 &&& ((h.2.1 r_3 x5.toNatClampNeg) ^^^ (-1 : Int32))).toNatClampNeg) + (1 : Int32))) fun (y_10 : Int32) =>
       fX8_cheapest_66 (fun z0 z1 z2 z3 z4 z5 zh => fX8_cheapest_13 n z0 z1 z2 z3 z4 z5 zh) a0 x1 x2 x3 y_10 x5 h
      )
     )
    )
set_option maxRecDepth 100000 in
set_option maxHeartbeats 1000000 in
theorem sX8_cheapest_13 {G : gz_G} {d l0 s0 : Nat} {Q : Int32 → gz_H → Prop} : ∀ (n : Nat) (a0 : Nat) (x1 : Int32) (x2 : Int32) (x3 : Int32) (x4 : Int32) (x5 : Int32) (h : gz_H), gz_g (fX8_cheapest_13  n a0 x1 x2 x3 x4 x5 h) Q → gz_Ok G mX8_cheapest (d + 1, l0, s0, 0, 0) 13 [.ref a0, .int x1, .int x2, .int x3, .int x4, .int x5] [] h (gz_qi Q) := by
  intro n
  induction n with
  | zero => intro a0 x1 x2 x3 x4 x5 h hf; exact False.elim hf
  | succ n ih =>
    intro a0 x1 x2 x3 x4 x5 h hf
    rw [fX8_cheapest_13] at hf
    refine gz_iload (pc := 13) dX8_cheapest_13 rfl ?_
    refine gz_iload_n (pc := 15) dX8_cheapest_15 rfl rfl ?_
    refine gz_icmp_ge (tgt := 72) (pc := 16) dX8_cheapest_16 rfl (fun c_1 => ?_) (fun c_1 => ?_)
    · have hf := gz_gT hf c_1
      refine gz_iload (pc := 72) dX8_cheapest_72 rfl ?_
      exact gz_irt (pc := 74) dX8_cheapest_74 rfl rfl hf
    · have hf := gz_gF hf c_1
      refine gz_iload (pc := 19) dX8_cheapest_19 rfl ?_
      refine gz_aload_n (pc := 21) dX8_cheapest_21 rfl rfl ?_
      refine gz_gk hf (fun c_2 hf => ?_)
      refine gz_gb hf (fun r_3 er_3 hf => ?_)
      refine gz_getR (pc := 22) dX8_cheapest_22 fl_RX8_87 rfl (gz_shs c_2) er_3 ?_
      refine gz_gi hf (fun y_4 ey_4 hf => ?_)
      refine gz_alen (pc := 25) dX8_cheapest_25 ey_4 ?_
      refine gz_icmp_ge (tgt := 72) (pc := 26) dX8_cheapest_26 rfl (fun c_5 => ?_) (fun c_5 => ?_)
      · have hf := gz_gT hf c_5
        refine gz_iload (pc := 72) dX8_cheapest_72 rfl ?_
        exact gz_irt (pc := 74) dX8_cheapest_74 rfl rfl hf
      · have hf := gz_gF hf c_5
        refine gz_aload_n (pc := 29) dX8_cheapest_29 rfl rfl ?_
        refine gz_getR (pc := 30) dX8_cheapest_30 fl_RX8_87 rfl (gz_shs c_2) er_3 ?_
        refine gz_iload (pc := 33) dX8_cheapest_33 rfl ?_
        refine gz_gk hf (fun c_6 hf => ?_)
        refine gz_iald (pc := 35) dX8_cheapest_35 c_6 ?_
        refine gz_iload_n (pc := 36) dX8_cheapest_36 rfl rfl ?_
        refine gz_iand (pc := 37) dX8_cheapest_37 ?_
        refine gz_if_eq (tgt := 66) (pc := 38) dX8_cheapest_38 rfl (fun c_7 => ?_) (fun c_7 => ?_)
        · have hf := gz_gT hf c_7
          exact sX8_cheapest_66 ih a0 x1 x2 x3 x4 x5 h hf
        · have hf := gz_gF hf c_7
          refine gz_iload (pc := 41) dX8_cheapest_41 rfl ?_
          refine gz_aload_n (pc := 43) dX8_cheapest_43 rfl rfl ?_
          refine gz_gb hf (fun r_8 er_8 hf => ?_)
          refine gz_getR (pc := 44) dX8_cheapest_44 fl_RX8_90 rfl (gz_shs c_2) er_8 ?_
          refine gz_iload_n (pc := 47) dX8_cheapest_47 rfl rfl ?_
          refine gz_aload_n (pc := 48) dX8_cheapest_48 rfl rfl ?_
          refine gz_getR (pc := 49) dX8_cheapest_49 fl_RX8_87 rfl (gz_shs c_2) er_3 ?_
          refine gz_iload (pc := 52) dX8_cheapest_52 rfl ?_
          refine gz_iald (pc := 54) dX8_cheapest_54 c_6 ?_
          refine gz_iconst (v := (-1 : Int32)) (pc := 55) dX8_cheapest_55 rfl ?_
          refine gz_ixor (pc := 56) dX8_cheapest_56 ?_
          refine gz_iand (pc := 57) dX8_cheapest_57 ?_
          refine gz_gk hf (fun c_9 hf => ?_)
          refine gz_iald (pc := 58) dX8_cheapest_58 c_9 ?_
          refine gz_iconst (v := (1 : Int32)) (pc := 59) dX8_cheapest_59 rfl ?_
          refine gz_iadd (pc := 60) dX8_cheapest_60 ?_
          refine gz_min (pc := 61) dX8_cheapest_61 kmx_RX8_382 (by show 1 ≤ d + 1; omega) (Nat.le_of_ble_eq_true rfl) ?_
          refine gz_nmI (fun y_10 ey_10 => ?_)
          have hf := gz_gl ey_10 hf
          refine gz_istore (lv := [.ref a0, .int x1, .int x2, .int x3, .int y_10, .int x5]) (pc := 64) dX8_cheapest_64 (by decide) rfl ?_
          exact sX8_cheapest_66 ih a0 x1 x2 x3 y_10 x5 h hf
def fX8_cheapest_0  (a0 : Nat) (x1 : Int32) (x2 : Int32) (h : gz_H) : Option (Int32 × gz_H) :=
    fX8_cheapest_13 gz_fu a0 x1 x2 (x1 &&& (-x1)) (1000 : Int32) (0 : Int32) h
set_option maxRecDepth 100000 in
set_option maxHeartbeats 1000000 in
theorem sX8_cheapest_0 {G : gz_G} {d l0 s0 : Nat} {Q : Int32 → gz_H → Prop} (a0 : Nat) (x1 : Int32) (x2 : Int32) (h : gz_H) (hf : gz_g (fX8_cheapest_0  a0 x1 x2 h) Q) : gz_Ok G mX8_cheapest (d + 1, l0, s0, 0, 0) 0 [.ref a0, .int x1, .int x2, .retAddr 0, .retAddr 0, .retAddr 0] [] h (gz_qi Q) := by
  unfold fX8_cheapest_0 at hf
  refine gz_iload_n (pc := 0) dX8_cheapest_0 rfl rfl ?_
  refine gz_iload_n (pc := 1) dX8_cheapest_1 rfl rfl ?_
  refine gz_ineg (pc := 2) dX8_cheapest_2 ?_
  refine gz_iand (pc := 3) dX8_cheapest_3 ?_
  refine gz_istore_n (lv := [.ref a0, .int x1, .int x2, .int (x1 &&& (-x1)), .retAddr 0, .retAddr 0]) (pc := 4) dX8_cheapest_4 rfl (by decide) rfl ?_
  refine gz_sipush (v := (1000 : Int32)) (pc := 5) dX8_cheapest_5 rfl ?_
  refine gz_istore (lv := [.ref a0, .int x1, .int x2, .int (x1 &&& (-x1)), .int (1000 : Int32), .retAddr 0]) (pc := 8) dX8_cheapest_8 (by decide) rfl ?_
  refine gz_iconst (v := (0 : Int32)) (pc := 10) dX8_cheapest_10 rfl ?_
  refine gz_istore (lv := [.ref a0, .int x1, .int x2, .int (x1 &&& (-x1)), .int (1000 : Int32), .int (0 : Int32)]) (pc := 11) dX8_cheapest_11 (by decide) rfl ?_
  exact sX8_cheapest_13 gz_fu a0 x1 x2 (x1 &&& (-x1)) (1000 : Int32) (0 : Int32) h hf
def fX8_cheapest (a0 : Nat) (x1 : Int32) (x2 : Int32) (h : gz_H) : Option (Int32 × gz_H) := fX8_cheapest_0 a0 x1 x2 h
theorem sX8_cheapest {G : gz_G} {d : Nat} {a0 : Nat} {x1 : Int32} {x2 : Int32} {h : gz_H} {Q : Int32 → gz_H → Prop} (hf : gz_g (fX8_cheapest a0 x1 x2 h) Q) : gz_Cl G mX8_cheapest (d + 1) 0 0 [.ref a0, .int x1, .int x2] h (gz_qi Q) := gz_cl_of (lo := [.ref a0, .int x1, .int x2, .retAddr 0, .retAddr 0, .retAddr 0]) (by decide) rfl rfl (Nat.le_of_ble_eq_true rfl) (sX8_cheapest_0 a0 x1 x2 h hf)
theorem dX8_least_0 : decode cX8_least 0 = .ok (.aload_n 0, 1) := by decide +kernel
theorem dX8_least_1 : decode cX8_least 1 = .ok (.getfield 70, 3) := by decide +kernel
theorem dX8_least_4 : decode cX8_least 4 = .ok (.iload_n 1, 1) := by decide +kernel
theorem dX8_least_5 : decode cX8_least 5 = .ok (.invokevirtual 220, 3) := by decide +kernel
theorem dX8_least_8 : decode cX8_least 8 = .ok (.ifCond .ne 5, 3) := by decide +kernel
theorem dX8_least_11 : decode cX8_least 11 = .ok (.iconst (-1), 1) := by decide +kernel
theorem dX8_least_12 : decode cX8_least 12 = .ok (.ireturn, 1) := by decide +kernel
theorem dX8_least_13 : decode cX8_least 13 = .ok (.aload_n 0, 1) := by decide +kernel
theorem dX8_least_14 : decode cX8_least 14 = .ok (.getfield 70, 3) := by decide +kernel
theorem dX8_least_17 : decode cX8_least 17 = .ok (.aload_n 0, 1) := by decide +kernel
theorem dX8_least_18 : decode cX8_least 18 = .ok (.getfield 87, 3) := by decide +kernel
theorem dX8_least_21 : decode cX8_least 21 = .ok (.invokevirtual 235, 3) := by decide +kernel
theorem dX8_least_24 : decode cX8_least 24 = .ok (.istore_n 2, 1) := by decide +kernel
theorem dX8_least_25 : decode cX8_least 25 = .ok (.aload_n 0, 1) := by decide +kernel
theorem dX8_least_26 : decode cX8_least 26 = .ok (.getfield 90, 3) := by decide +kernel
theorem dX8_least_29 : decode cX8_least 29 = .ok (.iconst 0, 1) := by decide +kernel
theorem dX8_least_30 : decode cX8_least 30 = .ok (.iconst 0, 1) := by decide +kernel
theorem dX8_least_31 : decode cX8_least 31 = .ok (.iastore, 1) := by decide +kernel
theorem dX8_least_32 : decode cX8_least 32 = .ok (.iconst 1, 1) := by decide +kernel
theorem dX8_least_33 : decode cX8_least 33 = .ok (.istore_n 3, 1) := by decide +kernel
theorem dX8_least_34 : decode cX8_least 34 = .ok (.iload_n 3, 1) := by decide +kernel
theorem dX8_least_35 : decode cX8_least 35 = .ok (.iload_n 1, 1) := by decide +kernel
theorem dX8_least_36 : decode cX8_least 36 = .ok (.if_icmp .gt 29, 3) := by decide +kernel
theorem dX8_least_39 : decode cX8_least 39 = .ok (.iload_n 3, 1) := by decide +kernel
theorem dX8_least_40 : decode cX8_least 40 = .ok (.iload_n 1, 1) := by decide +kernel
theorem dX8_least_41 : decode cX8_least 41 = .ok (.iconst (-1), 1) := by decide +kernel
theorem dX8_least_42 : decode cX8_least 42 = .ok (.ixor, 1) := by decide +kernel
theorem dX8_least_43 : decode cX8_least 43 = .ok (.iand, 1) := by decide +kernel
theorem dX8_least_44 : decode cX8_least 44 = .ok (.ifCond .ne 15, 3) := by decide +kernel
theorem dX8_least_47 : decode cX8_least 47 = .ok (.aload_n 0, 1) := by decide +kernel
theorem dX8_least_48 : decode cX8_least 48 = .ok (.getfield 90, 3) := by decide +kernel
theorem dX8_least_51 : decode cX8_least 51 = .ok (.iload_n 3, 1) := by decide +kernel
theorem dX8_least_52 : decode cX8_least 52 = .ok (.aload_n 0, 1) := by decide +kernel
theorem dX8_least_53 : decode cX8_least 53 = .ok (.iload_n 3, 1) := by decide +kernel
theorem dX8_least_54 : decode cX8_least 54 = .ok (.iload_n 2, 1) := by decide +kernel
theorem dX8_least_55 : decode cX8_least 55 = .ok (.invokevirtual 239, 3) := by decide +kernel
theorem dX8_least_58 : decode cX8_least 58 = .ok (.iastore, 1) := by decide +kernel
theorem dX8_least_59 : decode cX8_least 59 = .ok (.iinc 3 1, 3) := by decide +kernel
theorem dX8_least_62 : decode cX8_least 62 = .ok (.goto (-28), 3) := by decide +kernel
theorem dX8_least_65 : decode cX8_least 65 = .ok (.aload_n 0, 1) := by decide +kernel
theorem dX8_least_66 : decode cX8_least 66 = .ok (.getfield 90, 3) := by decide +kernel
theorem dX8_least_69 : decode cX8_least 69 = .ok (.iload_n 1, 1) := by decide +kernel
theorem dX8_least_70 : decode cX8_least 70 = .ok (.iaload, 1) := by decide +kernel
theorem dX8_least_71 : decode cX8_least 71 = .ok (.sipush 1000, 3) := by decide +kernel
theorem dX8_least_74 : decode cX8_least 74 = .ok (.if_icmp .lt 8, 3) := by decide +kernel
theorem dX8_least_77 : decode cX8_least 77 = .ok (.bipush (-9), 2) := by decide +kernel
theorem dX8_least_79 : decode cX8_least 79 = .ok (.goto 9, 3) := by decide +kernel
theorem dX8_least_82 : decode cX8_least 82 = .ok (.aload_n 0, 1) := by decide +kernel
theorem dX8_least_83 : decode cX8_least 83 = .ok (.getfield 90, 3) := by decide +kernel
theorem dX8_least_86 : decode cX8_least 86 = .ok (.iload_n 1, 1) := by decide +kernel
theorem dX8_least_87 : decode cX8_least 87 = .ok (.iaload, 1) := by decide +kernel
theorem dX8_least_88 : decode cX8_least 88 = .ok (.ireturn, 1) := by decide +kernel
def fX8_least_59 (k34 : Nat → Int32 → Int32 → Int32 → gz_H → Option (Int32 × gz_H)) (a0 : Nat) (x1 : Int32) (x2 : Int32) (x3 : Int32) (h : gz_H) : Option (Int32 × gz_H) :=
    k34 a0 x1 x2 (x3 + 1) h
set_option maxRecDepth 100000 in
set_option maxHeartbeats 1000000 in
theorem sX8_least_59 {G : gz_G} {d l0 s0 : Nat} {Q : Int32 → gz_H → Prop} {k34 : Nat → Int32 → Int32 → Int32 → gz_H → Option (Int32 × gz_H)} (hk34 : ∀ (a0 : Nat) (x1 : Int32) (x2 : Int32) (x3 : Int32) (h : gz_H), gz_g (k34 a0 x1 x2 x3 h) Q → gz_Ok G mX8_least (d + 4, l0, s0, 0, 0) 34 [.ref a0, .int x1, .int x2, .int x3] [] h (gz_qi Q)) (a0 : Nat) (x1 : Int32) (x2 : Int32) (x3 : Int32) (h : gz_H) (hf : gz_g (fX8_least_59 k34 a0 x1 x2 x3 h) Q) : gz_Ok G mX8_least (d + 4, l0, s0, 0, 0) 59 [.ref a0, .int x1, .int x2, .int x3] [] h (gz_qi Q) := by
  unfold fX8_least_59 at hf
  refine gz_iinc (v := x3 + 1) (lv := [.ref a0, .int x1, .int x2, .int (x3 + 1)]) (pc := 59) dX8_least_59 rfl rfl (by decide) rfl ?_
  refine gz_goto (tgt := 34) (pc := 62) dX8_least_62 rfl ?_
  exact hk34 a0 x1 x2 (x3 + 1) h hf
def fX8_least_34  : Nat → Nat → Int32 → Int32 → Int32 → gz_H → Option (Int32 × gz_H)
  | 0, _, _, _, _, _ => none
  | n + 1, a0, x1, x2, x3, h =>
    if x1 < x3 then (
     gz_ck (gz_sh h a0 8 19) <|
     gz_br (h.2.2.2 a0 15) fun r_3 =>
     gz_ck (gz_inb h r_3 10 x1) <|
     if (h.2.1 r_3 x1.toNatClampNeg) < (1000 : Int32) then (
      some (h.2.1 r_3 x1.toNatClampNeg, h)
     ) else (
      some ((-9 : Int32), h)
     )
    ) else (
     if (x3 &&& (x1 ^^^ (-1 : Int32))) = 0 then (
      gz_ck (gz_sh h a0 8 19) <|
      gz_br (h.2.2.2 a0 15) fun r_8 =>
      gz_b2 (fX8_cheapest a0 x3 x2 h) fun y_10 h_9 =>
      gz_ck (gz_inb h_9 r_8 10 x3) <|
      gz_lt (uI h_9 r_8 x3.toNatClampNeg y_10) fun h_12 =>
      fX8_least_59 (fun z0 z1 z2 z3 zh => fX8_least_34 n z0 z1 z2 z3 zh) a0 x1 x2 x3 h_12
     ) else (
      fX8_least_59 (fun z0 z1 z2 z3 zh => fX8_least_34 n z0 z1 z2 z3 zh) a0 x1 x2 x3 h
     )
    )
set_option maxRecDepth 100000 in
set_option maxHeartbeats 1000000 in
theorem sX8_least_34 {G : gz_G} {d l0 s0 : Nat} {Q : Int32 → gz_H → Prop} : ∀ (n : Nat) (a0 : Nat) (x1 : Int32) (x2 : Int32) (x3 : Int32) (h : gz_H), gz_g (fX8_least_34  n a0 x1 x2 x3 h) Q → gz_Ok G mX8_least (d + 4, l0, s0, 0, 0) 34 [.ref a0, .int x1, .int x2, .int x3] [] h (gz_qi Q) := by
  intro n
  induction n with
  | zero => intro a0 x1 x2 x3 h hf; exact False.elim hf
  | succ n ih =>
    intro a0 x1 x2 x3 h hf
    rw [fX8_least_34] at hf
    refine gz_iload_n (pc := 34) dX8_least_34 rfl rfl ?_
    refine gz_iload_n (pc := 35) dX8_least_35 rfl rfl ?_
    refine gz_icmp_gt (tgt := 65) (pc := 36) dX8_least_36 rfl (fun c_1 => ?_) (fun c_1 => ?_)
    · have hf := gz_gT hf c_1
      refine gz_aload_n (pc := 65) dX8_least_65 rfl rfl ?_
      refine gz_gk hf (fun c_2 hf => ?_)
      refine gz_gb hf (fun r_3 er_3 hf => ?_)
      refine gz_getR (pc := 66) dX8_least_66 fl_RX8_90 rfl (gz_shs c_2) er_3 ?_
      refine gz_iload_n (pc := 69) dX8_least_69 rfl rfl ?_
      refine gz_gk hf (fun c_4 hf => ?_)
      refine gz_iald (pc := 70) dX8_least_70 c_4 ?_
      refine gz_sipush (v := (1000 : Int32)) (pc := 71) dX8_least_71 rfl ?_
      refine gz_icmp_lt (tgt := 82) (pc := 74) dX8_least_74 rfl (fun c_5 => ?_) (fun c_5 => ?_)
      · have hf := gz_gT hf c_5
        refine gz_aload_n (pc := 82) dX8_least_82 rfl rfl ?_
        refine gz_getR (pc := 83) dX8_least_83 fl_RX8_90 rfl (gz_shs c_2) er_3 ?_
        refine gz_iload_n (pc := 86) dX8_least_86 rfl rfl ?_
        refine gz_iald (pc := 87) dX8_least_87 c_4 ?_
        exact gz_irt (pc := 88) dX8_least_88 rfl rfl hf
      · have hf := gz_gF hf c_5
        refine gz_bipush (v := (-9 : Int32)) (pc := 77) dX8_least_77 rfl ?_
        refine gz_goto (tgt := 88) (pc := 79) dX8_least_79 rfl ?_
        exact gz_irt (pc := 88) dX8_least_88 rfl rfl hf
    · have hf := gz_gF hf c_1
      refine gz_iload_n (pc := 39) dX8_least_39 rfl rfl ?_
      refine gz_iload_n (pc := 40) dX8_least_40 rfl rfl ?_
      refine gz_iconst (v := (-1 : Int32)) (pc := 41) dX8_least_41 rfl ?_
      refine gz_ixor (pc := 42) dX8_least_42 ?_
      refine gz_iand (pc := 43) dX8_least_43 ?_
      refine gz_if_ne (tgt := 59) (pc := 44) dX8_least_44 rfl (fun c_6 => ?_) (fun c_6 => ?_)
      · have hf := gz_gF hf c_6
        exact sX8_least_59 ih a0 x1 x2 x3 h hf
      · have hf := gz_gT hf c_6
        refine gz_aload_n (pc := 47) dX8_least_47 rfl rfl ?_
        refine gz_gk hf (fun c_7 hf => ?_)
        refine gz_gb hf (fun r_8 er_8 hf => ?_)
        refine gz_getR (pc := 48) dX8_least_48 fl_RX8_90 rfl (gz_shs c_7) er_8 ?_
        refine gz_iload_n (pc := 51) dX8_least_51 rfl rfl ?_
        refine gz_aload_n (pc := 52) dX8_least_52 rfl rfl ?_
        refine gz_iload_n (pc := 53) dX8_least_53 rfl rfl ?_
        refine gz_iload_n (pc := 54) dX8_least_54 rfl rfl ?_
        refine gz_cVI (av := [.int x3, .int x2]) (st := [.int x3, .ref r_8]) (pc := 55) dX8_least_55 kl_RX8_239 rfl (gz_shs c_7) rfl rfl (Nat.le_of_ble_eq_true rfl) (by show d + 2 + 1 + 1 ≤ d + 4; omega) (sX8_cheapest (d := d + 2) (gz_gc hf)) (fun y_10 h_9 hf => ?_)
        refine gz_gk hf (fun c_11 hf => ?_)
        refine gz_iast (pc := 58) dX8_least_58 c_11 ?_
        refine gz_nmH (fun h_12 eh_12 => ?_)
        have hf := gz_gl eh_12 hf
        exact sX8_least_59 ih a0 x1 x2 x3 h_12 hf
def fX8_least_0  (a0 : Nat) (x1 : Int32) (h : gz_H) : Option (Int32 × gz_H) :=
    gz_ck (gz_sh h a0 8 19) <|
    gz_br (h.2.2.2 a0 9) fun r_2 =>
    gz_ck (gz_sh h r_2 1 4) <|
    gz_b2 (fX1_hasFactSet r_2 x1 h) fun y_4 h_3 =>
    if y_4 = 0 then (
     some ((-1 : Int32), h_3)
    ) else (
     gz_ck (gz_sh h_3 a0 8 19) <|
     gz_br (h_3.2.2.2 a0 9) fun r_8 =>
     gz_br (h_3.2.2.2 a0 14) fun r_9 =>
     gz_ck (gz_sh h_3 r_8 1 4) <|
     gz_b2 (fX1_listTellings r_8 r_9 h_3) fun y_11 h_10 =>
     gz_ck (gz_sh h_10 a0 8 19) <|
     gz_br (h_10.2.2.2 a0 15) fun r_14 =>
     gz_ck (gz_inb h_10 r_14 10 (0 : Int32)) <|
     gz_lt (uI h_10 r_14 (0 : Int32).toNatClampNeg (0 : Int32)) fun h_16 =>
     fX8_least_34 gz_fu a0 x1 y_11 (1 : Int32) h_16
    )
set_option maxRecDepth 100000 in
set_option maxHeartbeats 1000000 in
theorem sX8_least_0 {G : gz_G} {d l0 s0 : Nat} {Q : Int32 → gz_H → Prop} (a0 : Nat) (x1 : Int32) (h : gz_H) (hf : gz_g (fX8_least_0  a0 x1 h) Q) : gz_Ok G mX8_least (d + 4, l0, s0, 0, 0) 0 [.ref a0, .int x1, .retAddr 0, .retAddr 0] [] h (gz_qi Q) := by
  unfold fX8_least_0 at hf
  refine gz_aload_n (pc := 0) dX8_least_0 rfl rfl ?_
  refine gz_gk hf (fun c_1 hf => ?_)
  refine gz_gb hf (fun r_2 er_2 hf => ?_)
  refine gz_getR (pc := 1) dX8_least_1 fl_RX8_70 rfl (gz_shs c_1) er_2 ?_
  refine gz_iload_n (pc := 4) dX8_least_4 rfl rfl ?_
  refine gz_gk hf (fun c_5 hf => ?_)
  refine gz_cVI (av := [.int x1]) (st := []) (pc := 5) dX8_least_5 kl_RX8_220 rfl (gz_shs c_5) rfl rfl (Nat.le_of_ble_eq_true rfl) (by show d + 3 + 0 + 1 ≤ d + 4; omega) (sX1_hasFactSet (d := d + 3) (gz_gc hf)) (fun y_4 h_3 hf => ?_)
  refine gz_if_ne (tgt := 13) (pc := 8) dX8_least_8 rfl (fun c_6 => ?_) (fun c_6 => ?_)
  · have hf := gz_gF hf c_6
    refine gz_aload_n (pc := 13) dX8_least_13 rfl rfl ?_
    refine gz_gk hf (fun c_7 hf => ?_)
    refine gz_gb hf (fun r_8 er_8 hf => ?_)
    refine gz_getR (pc := 14) dX8_least_14 fl_RX8_70 rfl (gz_shs c_7) er_8 ?_
    refine gz_aload_n (pc := 17) dX8_least_17 rfl rfl ?_
    refine gz_gb hf (fun r_9 er_9 hf => ?_)
    refine gz_getR (pc := 18) dX8_least_18 fl_RX8_87 rfl (gz_shs c_7) er_9 ?_
    refine gz_gk hf (fun c_12 hf => ?_)
    refine gz_cVI (av := [.ref r_9]) (st := []) (pc := 21) dX8_least_21 kl_RX8_235 rfl (gz_shs c_12) rfl rfl (Nat.le_of_ble_eq_true rfl) (by show d + 0 + 3 + 1 ≤ d + 4; omega) (sX1_listTellings (d := d + 0) (gz_gc hf)) (fun y_11 h_10 hf => ?_)
    refine gz_istore_n (lv := [.ref a0, .int x1, .int y_11, .retAddr 0]) (pc := 24) dX8_least_24 rfl (by decide) rfl ?_
    refine gz_aload_n (pc := 25) dX8_least_25 rfl rfl ?_
    refine gz_gk hf (fun c_13 hf => ?_)
    refine gz_gb hf (fun r_14 er_14 hf => ?_)
    refine gz_getR (pc := 26) dX8_least_26 fl_RX8_90 rfl (gz_shs c_13) er_14 ?_
    refine gz_iconst (v := (0 : Int32)) (pc := 29) dX8_least_29 rfl ?_
    refine gz_iconst (v := (0 : Int32)) (pc := 30) dX8_least_30 rfl ?_
    refine gz_gk hf (fun c_15 hf => ?_)
    refine gz_iast (pc := 31) dX8_least_31 c_15 ?_
    refine gz_nmH (fun h_16 eh_16 => ?_)
    have hf := gz_gl eh_16 hf
    refine gz_iconst (v := (1 : Int32)) (pc := 32) dX8_least_32 rfl ?_
    refine gz_istore_n (lv := [.ref a0, .int x1, .int y_11, .int (1 : Int32)]) (pc := 33) dX8_least_33 rfl (by decide) rfl ?_
    exact sX8_least_34 gz_fu a0 x1 y_11 (1 : Int32) h_16 hf
  · have hf := gz_gT hf c_6
    refine gz_iconst (v := (-1 : Int32)) (pc := 11) dX8_least_11 rfl ?_
    exact gz_irt (pc := 12) dX8_least_12 rfl rfl hf
def fX8_least (a0 : Nat) (x1 : Int32) (h : gz_H) : Option (Int32 × gz_H) := fX8_least_0 a0 x1 h
theorem sX8_least {G : gz_G} {d : Nat} {a0 : Nat} {x1 : Int32} {h : gz_H} {Q : Int32 → gz_H → Prop} (hf : gz_g (fX8_least a0 x1 h) Q) : gz_Cl G mX8_least (d + 4) 0 0 [.ref a0, .int x1] h (gz_qi Q) := gz_cl_of (lo := [.ref a0, .int x1, .retAddr 0, .retAddr 0]) (by decide) rfl rfl (Nat.le_of_ble_eq_true rfl) (sX8_least_0 a0 x1 h hf)
theorem dX8_risk_0 : decode cX8_risk 0 = .ok (.iconst 0, 1) := by decide +kernel
theorem dX8_risk_1 : decode cX8_risk 1 = .ok (.istore_n 1, 1) := by decide +kernel
theorem dX8_risk_2 : decode cX8_risk 2 = .ok (.bipush (-9), 2) := by decide +kernel
theorem dX8_risk_4 : decode cX8_risk 4 = .ok (.istore_n 2, 1) := by decide +kernel
theorem dX8_risk_5 : decode cX8_risk 5 = .ok (.iconst 0, 1) := by decide +kernel
theorem dX8_risk_6 : decode cX8_risk 6 = .ok (.istore_n 3, 1) := by decide +kernel
theorem dX8_risk_7 : decode cX8_risk 7 = .ok (.iconst 0, 1) := by decide +kernel
theorem dX8_risk_8 : decode cX8_risk 8 = .ok (.istore 4, 2) := by decide +kernel
theorem dX8_risk_10 : decode cX8_risk 10 = .ok (.iload 4, 2) := by decide +kernel
theorem dX8_risk_12 : decode cX8_risk 12 = .ok (.aload_n 0, 1) := by decide +kernel
theorem dX8_risk_13 : decode cX8_risk 13 = .ok (.getfield 70, 3) := by decide +kernel
theorem dX8_risk_16 : decode cX8_risk 16 = .ok (.getfield 149, 3) := by decide +kernel
theorem dX8_risk_19 : decode cX8_risk 19 = .ok (.if_icmp .ge 43, 3) := by decide +kernel
theorem dX8_risk_22 : decode cX8_risk 22 = .ok (.aload_n 0, 1) := by decide +kernel
theorem dX8_risk_23 : decode cX8_risk 23 = .ok (.getfield 70, 3) := by decide +kernel
theorem dX8_risk_26 : decode cX8_risk 26 = .ok (.iload 4, 2) := by decide +kernel
theorem dX8_risk_28 : decode cX8_risk 28 = .ok (.invokevirtual 242, 3) := by decide +kernel
theorem dX8_risk_31 : decode cX8_risk 31 = .ok (.istore 5, 2) := by decide +kernel
theorem dX8_risk_33 : decode cX8_risk 33 = .ok (.iload_n 1, 1) := by decide +kernel
theorem dX8_risk_34 : decode cX8_risk 34 = .ok (.iload 5, 2) := by decide +kernel
theorem dX8_risk_36 : decode cX8_risk 36 = .ok (.ior, 1) := by decide +kernel
theorem dX8_risk_37 : decode cX8_risk 37 = .ok (.istore_n 1, 1) := by decide +kernel
theorem dX8_risk_38 : decode cX8_risk 38 = .ok (.iload 5, 2) := by decide +kernel
theorem dX8_risk_40 : decode cX8_risk 40 = .ok (.invokestatic 226, 3) := by decide +kernel
theorem dX8_risk_43 : decode cX8_risk 43 = .ok (.iload_n 3, 1) := by decide +kernel
theorem dX8_risk_44 : decode cX8_risk 44 = .ok (.if_icmp .le 12, 3) := by decide +kernel
theorem dX8_risk_47 : decode cX8_risk 47 = .ok (.iload 5, 2) := by decide +kernel
theorem dX8_risk_49 : decode cX8_risk 49 = .ok (.invokestatic 226, 3) := by decide +kernel
theorem dX8_risk_52 : decode cX8_risk 52 = .ok (.istore_n 3, 1) := by decide +kernel
theorem dX8_risk_53 : decode cX8_risk 53 = .ok (.iload 4, 2) := by decide +kernel
theorem dX8_risk_55 : decode cX8_risk 55 = .ok (.istore_n 2, 1) := by decide +kernel
theorem dX8_risk_56 : decode cX8_risk 56 = .ok (.iinc 4 1, 3) := by decide +kernel
theorem dX8_risk_59 : decode cX8_risk 59 = .ok (.goto (-49), 3) := by decide +kernel
theorem dX8_risk_62 : decode cX8_risk 62 = .ok (.aload_n 0, 1) := by decide +kernel
theorem dX8_risk_63 : decode cX8_risk 63 = .ok (.iload_n 2, 1) := by decide +kernel
theorem dX8_risk_64 : decode cX8_risk 64 = .ok (.putfield 115, 3) := by decide +kernel
theorem dX8_risk_67 : decode cX8_risk 67 = .ok (.iload_n 1, 1) := by decide +kernel
theorem dX8_risk_68 : decode cX8_risk 68 = .ok (.ireturn, 1) := by decide +kernel
def fX8_risk_56 (k10 : Nat → Int32 → Int32 → Int32 → Int32 → gz_H → Option (Int32 × gz_H)) (a0 : Nat) (x1 : Int32) (x2 : Int32) (x3 : Int32) (x4 : Int32) (h : gz_H) : Option (Int32 × gz_H) :=
    k10 a0 x1 x2 x3 (x4 + 1) h
set_option maxRecDepth 100000 in
set_option maxHeartbeats 1000000 in
theorem sX8_risk_56 {G : gz_G} {d l0 s0 : Nat} {Q : Int32 → gz_H → Prop} {k10 : Nat → Int32 → Int32 → Int32 → Int32 → gz_H → Option (Int32 × gz_H)} (hk10 : ∀ (a0 : Nat) (x1 : Int32) (x2 : Int32) (x3 : Int32) (x4 : Int32) (h : gz_H), gz_g (k10 a0 x1 x2 x3 x4 h) Q → gz_Ok G mX8_risk (d + 3, l0, s0, 0, 0) 10 [.ref a0, .int x1, .int x2, .int x3, .int x4, .retAddr 0] [] h (gz_qi Q)) (a0 : Nat) (x1 : Int32) (x2 : Int32) (x3 : Int32) (x4 : Int32) (h : gz_H) (hf : gz_g (fX8_risk_56 k10 a0 x1 x2 x3 x4 h) Q) : gz_Ok G mX8_risk (d + 3, l0, s0, 0, 0) 56 [.ref a0, .int x1, .int x2, .int x3, .int x4, .retAddr 0] [] h (gz_qi Q) := by
  unfold fX8_risk_56 at hf
  refine gz_iinc (v := x4 + 1) (lv := [.ref a0, .int x1, .int x2, .int x3, .int (x4 + 1), .retAddr 0]) (pc := 56) dX8_risk_56 rfl rfl (by decide) rfl ?_
  refine gz_goto (tgt := 10) (pc := 59) dX8_risk_59 rfl ?_
  exact hk10 a0 x1 x2 x3 (x4 + 1) h hf
def fX8_risk_10  : Nat → Nat → Int32 → Int32 → Int32 → Int32 → gz_H → Option (Int32 × gz_H)
  | 0, _, _, _, _, _, _ => none
  | n + 1, a0, x1, x2, x3, x4, h =>
    gz_ck (gz_sh h a0 8 19) <|
    gz_br (h.2.2.2 a0 9) fun r_2 =>
    gz_ck (gz_sh h r_2 1 4) <|
    if (h.2.1 r_2 3) ≤ x4 then (
     gz_lt (uI h a0 18 x2) fun h_5 =>
     some (x1, h_5)
    ) else (
     gz_b2 (fX1_heldOnlyBy r_2 x4 h) fun y_7 h_6 =>
     gz_b2 (fJ6_bitCount_0f7a4 y_7 h_6) fun y_9 h_8 =>
     if y_9 ≤ x3 then (
      fX8_risk_56 (fun z0 z1 z2 z3 z4 zh => fX8_risk_10 n z0 z1 z2 z3 z4 zh) a0 (x1 ||| y_7) x2 x3 x4 h_8
     ) else (
      gz_b2 (fJ6_bitCount_0f7a4 y_7 h_8) fun y_12 h_11 =>
      fX8_risk_56 (fun z0 z1 z2 z3 z4 zh => fX8_risk_10 n z0 z1 z2 z3 z4 zh) a0 (x1 ||| y_7) x4 y_12 x4 h_11
     )
    )
set_option maxRecDepth 100000 in
set_option maxHeartbeats 1000000 in
theorem sX8_risk_10 {G : gz_G} {d l0 s0 : Nat} {Q : Int32 → gz_H → Prop} : ∀ (n : Nat) (a0 : Nat) (x1 : Int32) (x2 : Int32) (x3 : Int32) (x4 : Int32) (h : gz_H), gz_g (fX8_risk_10  n a0 x1 x2 x3 x4 h) Q → gz_Ok G mX8_risk (d + 3, l0, s0, 0, 0) 10 [.ref a0, .int x1, .int x2, .int x3, .int x4, .retAddr 0] [] h (gz_qi Q) := by
  intro n
  induction n with
  | zero => intro a0 x1 x2 x3 x4 h hf; exact False.elim hf
  | succ n ih =>
    intro a0 x1 x2 x3 x4 h hf
    rw [fX8_risk_10] at hf
    refine gz_iload (pc := 10) dX8_risk_10 rfl ?_
    refine gz_aload_n (pc := 12) dX8_risk_12 rfl rfl ?_
    refine gz_gk hf (fun c_1 hf => ?_)
    refine gz_gb hf (fun r_2 er_2 hf => ?_)
    refine gz_getR (pc := 13) dX8_risk_13 fl_RX8_70 rfl (gz_shs c_1) er_2 ?_
    refine gz_gk hf (fun c_3 hf => ?_)
    refine gz_getI (pc := 16) dX8_risk_16 fl_RX8_149 rfl (gz_shs c_3) ?_
    refine gz_icmp_ge (tgt := 62) (pc := 19) dX8_risk_19 rfl (fun c_4 => ?_) (fun c_4 => ?_)
    · have hf := gz_gT hf c_4
      refine gz_aload_n (pc := 62) dX8_risk_62 rfl rfl ?_
      refine gz_iload_n (pc := 63) dX8_risk_63 rfl rfl ?_
      refine gz_putI (pc := 64) dX8_risk_64 fw_X8_risk_115 rfl rfl rfl (gz_shs c_1) ?_
      refine gz_nmH (fun h_5 eh_5 => ?_)
      have hf := gz_gl eh_5 hf
      refine gz_iload_n (pc := 67) dX8_risk_67 rfl rfl ?_
      exact gz_irt (pc := 68) dX8_risk_68 rfl rfl hf
    · have hf := gz_gF hf c_4
      refine gz_aload_n (pc := 22) dX8_risk_22 rfl rfl ?_
      refine gz_getR (pc := 23) dX8_risk_23 fl_RX8_70 rfl (gz_shs c_1) er_2 ?_
      refine gz_iload (pc := 26) dX8_risk_26 rfl ?_
      refine gz_cVI (av := [.int x4]) (st := []) (pc := 28) dX8_risk_28 kl_RX8_242 rfl (gz_shs c_3) rfl rfl (Nat.le_of_ble_eq_true rfl) (by show d + 0 + 2 + 1 ≤ d + 3; omega) (sX1_heldOnlyBy (d := d + 0) (gz_gc hf)) (fun y_7 h_6 hf => ?_)
      refine gz_istore (lv := [.ref a0, .int x1, .int x2, .int x3, .int x4, .int y_7]) (pc := 31) dX8_risk_31 (by decide) rfl ?_
      refine gz_iload_n (pc := 33) dX8_risk_33 rfl rfl ?_
      refine gz_iload (pc := 34) dX8_risk_34 rfl ?_
      refine gz_ior (pc := 36) dX8_risk_36 ?_
      refine gz_istore_n (lv := [.ref a0, .int (x1 ||| y_7), .int x2, .int x3, .int x4, .int y_7]) (pc := 37) dX8_risk_37 rfl (by decide) rfl ?_
      refine gz_iload (pc := 38) dX8_risk_38 rfl ?_
      refine gz_cSI (av := [.int y_7]) (st := []) (pc := 40) dX8_risk_40 kl_RX8_226 rfl rfl (Nat.le_of_ble_eq_true rfl) (by show d + 2 + 0 + 1 ≤ d + 3; omega) (sJ6_bitCount_0f7a4 (d := d + 2) (gz_gc hf)) (fun y_9 h_8 hf => ?_)
      refine gz_iload_n (pc := 43) dX8_risk_43 rfl rfl ?_
      refine gz_icmp_le (tgt := 56) (pc := 44) dX8_risk_44 rfl (fun c_10 => ?_) (fun c_10 => ?_)
      · have hf := gz_gT hf c_10
        refine gz_fg (lv := [.ref a0, .int (x1 ||| y_7), .int x2, .int x3, .int x4, .retAddr 0]) ⟨Or.inr rfl, ⟨Or.inr rfl, ⟨Or.inr rfl, ⟨Or.inr rfl, ⟨Or.inr rfl, ⟨Or.inl rfl, trivial⟩⟩⟩⟩⟩⟩ ?_
        exact sX8_risk_56 ih a0 (x1 ||| y_7) x2 x3 x4 h_8 hf
      · have hf := gz_gF hf c_10
        refine gz_iload (pc := 47) dX8_risk_47 rfl ?_
        refine gz_cSI (av := [.int y_7]) (st := []) (pc := 49) dX8_risk_49 kl_RX8_226 rfl rfl (Nat.le_of_ble_eq_true rfl) (by show d + 2 + 0 + 1 ≤ d + 3; omega) (sJ6_bitCount_0f7a4 (d := d + 2) (gz_gc hf)) (fun y_12 h_11 hf => ?_)
        refine gz_istore_n (lv := [.ref a0, .int (x1 ||| y_7), .int x2, .int y_12, .int x4, .int y_7]) (pc := 52) dX8_risk_52 rfl (by decide) rfl ?_
        refine gz_iload (pc := 53) dX8_risk_53 rfl ?_
        refine gz_istore_n (lv := [.ref a0, .int (x1 ||| y_7), .int x4, .int y_12, .int x4, .int y_7]) (pc := 55) dX8_risk_55 rfl (by decide) rfl ?_
        refine gz_fg (lv := [.ref a0, .int (x1 ||| y_7), .int x4, .int y_12, .int x4, .retAddr 0]) ⟨Or.inr rfl, ⟨Or.inr rfl, ⟨Or.inr rfl, ⟨Or.inr rfl, ⟨Or.inr rfl, ⟨Or.inl rfl, trivial⟩⟩⟩⟩⟩⟩ ?_
        exact sX8_risk_56 ih a0 (x1 ||| y_7) x4 y_12 x4 h_11 hf
def fX8_risk_0  (a0 : Nat) (h : gz_H) : Option (Int32 × gz_H) :=
    fX8_risk_10 gz_fu a0 (0 : Int32) (-9 : Int32) (0 : Int32) (0 : Int32) h
set_option maxRecDepth 100000 in
set_option maxHeartbeats 1000000 in
theorem sX8_risk_0 {G : gz_G} {d l0 s0 : Nat} {Q : Int32 → gz_H → Prop} (a0 : Nat) (h : gz_H) (hf : gz_g (fX8_risk_0  a0 h) Q) : gz_Ok G mX8_risk (d + 3, l0, s0, 0, 0) 0 [.ref a0, .retAddr 0, .retAddr 0, .retAddr 0, .retAddr 0, .retAddr 0] [] h (gz_qi Q) := by
  unfold fX8_risk_0 at hf
  refine gz_iconst (v := (0 : Int32)) (pc := 0) dX8_risk_0 rfl ?_
  refine gz_istore_n (lv := [.ref a0, .int (0 : Int32), .retAddr 0, .retAddr 0, .retAddr 0, .retAddr 0]) (pc := 1) dX8_risk_1 rfl (by decide) rfl ?_
  refine gz_bipush (v := (-9 : Int32)) (pc := 2) dX8_risk_2 rfl ?_
  refine gz_istore_n (lv := [.ref a0, .int (0 : Int32), .int (-9 : Int32), .retAddr 0, .retAddr 0, .retAddr 0]) (pc := 4) dX8_risk_4 rfl (by decide) rfl ?_
  refine gz_iconst (v := (0 : Int32)) (pc := 5) dX8_risk_5 rfl ?_
  refine gz_istore_n (lv := [.ref a0, .int (0 : Int32), .int (-9 : Int32), .int (0 : Int32), .retAddr 0, .retAddr 0]) (pc := 6) dX8_risk_6 rfl (by decide) rfl ?_
  refine gz_iconst (v := (0 : Int32)) (pc := 7) dX8_risk_7 rfl ?_
  refine gz_istore (lv := [.ref a0, .int (0 : Int32), .int (-9 : Int32), .int (0 : Int32), .int (0 : Int32), .retAddr 0]) (pc := 8) dX8_risk_8 (by decide) rfl ?_
  exact sX8_risk_10 gz_fu a0 (0 : Int32) (-9 : Int32) (0 : Int32) (0 : Int32) h hf
def fX8_risk (a0 : Nat) (h : gz_H) : Option (Int32 × gz_H) := fX8_risk_0 a0 h
theorem sX8_risk {G : gz_G} {d : Nat} {a0 : Nat} {h : gz_H} {Q : Int32 → gz_H → Prop} (hf : gz_g (fX8_risk a0 h) Q) : gz_Cl G mX8_risk (d + 3) 0 0 [.ref a0] h (gz_qi Q) := gz_cl_of (lo := [.ref a0, .retAddr 0, .retAddr 0, .retAddr 0, .retAddr 0, .retAddr 0]) (by decide) rfl rfl (Nat.le_of_ble_eq_true rfl) (sX8_risk_0 a0 h hf)
theorem dX8_cutBy_0 : decode cX8_cutBy 0 = .ok (.aload_n 0, 1) := by decide +kernel
theorem dX8_cutBy_1 : decode cX8_cutBy 1 = .ok (.getfield 70, 3) := by decide +kernel
theorem dX8_cutBy_4 : decode cX8_cutBy 4 = .ok (.iload_n 1, 1) := by decide +kernel
theorem dX8_cutBy_5 : decode cX8_cutBy 5 = .ok (.invokevirtual 379, 3) := by decide +kernel
theorem dX8_cutBy_8 : decode cX8_cutBy 8 = .ok (.istore_n 2, 1) := by decide +kernel
theorem dX8_cutBy_9 : decode cX8_cutBy 9 = .ok (.iconst 0, 1) := by decide +kernel
theorem dX8_cutBy_10 : decode cX8_cutBy 10 = .ok (.istore_n 3, 1) := by decide +kernel
theorem dX8_cutBy_11 : decode cX8_cutBy 11 = .ok (.iload_n 3, 1) := by decide +kernel
theorem dX8_cutBy_12 : decode cX8_cutBy 12 = .ok (.aload_n 0, 1) := by decide +kernel
theorem dX8_cutBy_13 : decode cX8_cutBy 13 = .ok (.getfield 70, 3) := by decide +kernel
theorem dX8_cutBy_16 : decode cX8_cutBy 16 = .ok (.getfield 245, 3) := by decide +kernel
theorem dX8_cutBy_19 : decode cX8_cutBy 19 = .ok (.if_icmp .ge 34, 3) := by decide +kernel
theorem dX8_cutBy_22 : decode cX8_cutBy 22 = .ok (.iload_n 2, 1) := by decide +kernel
theorem dX8_cutBy_23 : decode cX8_cutBy 23 = .ok (.aload_n 0, 1) := by decide +kernel
theorem dX8_cutBy_24 : decode cX8_cutBy 24 = .ok (.getfield 93, 3) := by decide +kernel
theorem dX8_cutBy_27 : decode cX8_cutBy 27 = .ok (.iload_n 3, 1) := by decide +kernel
theorem dX8_cutBy_28 : decode cX8_cutBy 28 = .ok (.iaload, 1) := by decide +kernel
theorem dX8_cutBy_29 : decode cX8_cutBy 29 = .ok (.aload_n 0, 1) := by decide +kernel
theorem dX8_cutBy_30 : decode cX8_cutBy 30 = .ok (.getfield 96, 3) := by decide +kernel
theorem dX8_cutBy_33 : decode cX8_cutBy 33 = .ok (.iload_n 3, 1) := by decide +kernel
theorem dX8_cutBy_34 : decode cX8_cutBy 34 = .ok (.iaload, 1) := by decide +kernel
theorem dX8_cutBy_35 : decode cX8_cutBy 35 = .ok (.iload_n 1, 1) := by decide +kernel
theorem dX8_cutBy_36 : decode cX8_cutBy 36 = .ok (.iconst (-1), 1) := by decide +kernel
theorem dX8_cutBy_37 : decode cX8_cutBy 37 = .ok (.ixor, 1) := by decide +kernel
theorem dX8_cutBy_38 : decode cX8_cutBy 38 = .ok (.iand, 1) := by decide +kernel
theorem dX8_cutBy_39 : decode cX8_cutBy 39 = .ok (.invokestatic 226, 3) := by decide +kernel
theorem dX8_cutBy_42 : decode cX8_cutBy 42 = .ok (.invokestatic 382, 3) := by decide +kernel
theorem dX8_cutBy_45 : decode cX8_cutBy 45 = .ok (.iadd, 1) := by decide +kernel
theorem dX8_cutBy_46 : decode cX8_cutBy 46 = .ok (.istore_n 2, 1) := by decide +kernel
theorem dX8_cutBy_47 : decode cX8_cutBy 47 = .ok (.iinc 3 1, 3) := by decide +kernel
theorem dX8_cutBy_50 : decode cX8_cutBy 50 = .ok (.goto (-39), 3) := by decide +kernel
theorem dX8_cutBy_53 : decode cX8_cutBy 53 = .ok (.iload_n 2, 1) := by decide +kernel
theorem dX8_cutBy_54 : decode cX8_cutBy 54 = .ok (.ireturn, 1) := by decide +kernel
def fX8_cutBy_11  : Nat → Nat → Int32 → Int32 → Int32 → gz_H → Option (Int32 × gz_H)
  | 0, _, _, _, _, _ => none
  | n + 1, a0, x1, x2, x3, h =>
    gz_ck (gz_sh h a0 8 19) <|
    gz_br (h.2.2.2 a0 9) fun r_2 =>
    gz_ck (gz_sh h r_2 1 4) <|
    if (h.2.1 r_2 2) ≤ x3 then (
     some (x2, h)
    ) else (
     gz_br (h.2.2.2 a0 16) fun r_5 =>
     gz_ck (gz_inb h r_5 10 x3) <|
     gz_br (h.2.2.2 a0 17) fun r_7 =>
     gz_ck (gz_inb h r_7 10 x3) <|
     gz_b2 (fJ6_bitCount_0f7a4 ((h.2.1 r_7 x3.toNatClampNeg) &&& (x1 ^^^ (-1 : Int32))) h) fun y_10 h_9 =>
     fX8_cutBy_11 n a0 x1 (x2 + (gz_mn2 (h.2.1 r_5 x3.toNatClampNeg) y_10)) (x3 + 1) h_9
    )
set_option maxRecDepth 100000 in
set_option maxHeartbeats 1000000 in
theorem sX8_cutBy_11 {G : gz_G} {d l0 s0 : Nat} {Q : Int32 → gz_H → Prop} : ∀ (n : Nat) (a0 : Nat) (x1 : Int32) (x2 : Int32) (x3 : Int32) (h : gz_H), gz_g (fX8_cutBy_11  n a0 x1 x2 x3 h) Q → gz_Ok G mX8_cutBy (d + 2, l0, s0, 0, 0) 11 [.ref a0, .int x1, .int x2, .int x3] [] h (gz_qi Q) := by
  intro n
  induction n with
  | zero => intro a0 x1 x2 x3 h hf; exact False.elim hf
  | succ n ih =>
    intro a0 x1 x2 x3 h hf
    rw [fX8_cutBy_11] at hf
    refine gz_iload_n (pc := 11) dX8_cutBy_11 rfl rfl ?_
    refine gz_aload_n (pc := 12) dX8_cutBy_12 rfl rfl ?_
    refine gz_gk hf (fun c_1 hf => ?_)
    refine gz_gb hf (fun r_2 er_2 hf => ?_)
    refine gz_getR (pc := 13) dX8_cutBy_13 fl_RX8_70 rfl (gz_shs c_1) er_2 ?_
    refine gz_gk hf (fun c_3 hf => ?_)
    refine gz_getI (pc := 16) dX8_cutBy_16 fl_RX8_245 rfl (gz_shs c_3) ?_
    refine gz_icmp_ge (tgt := 53) (pc := 19) dX8_cutBy_19 rfl (fun c_4 => ?_) (fun c_4 => ?_)
    · have hf := gz_gT hf c_4
      refine gz_iload_n (pc := 53) dX8_cutBy_53 rfl rfl ?_
      exact gz_irt (pc := 54) dX8_cutBy_54 rfl rfl hf
    · have hf := gz_gF hf c_4
      refine gz_iload_n (pc := 22) dX8_cutBy_22 rfl rfl ?_
      refine gz_aload_n (pc := 23) dX8_cutBy_23 rfl rfl ?_
      refine gz_gb hf (fun r_5 er_5 hf => ?_)
      refine gz_getR (pc := 24) dX8_cutBy_24 fl_RX8_93 rfl (gz_shs c_1) er_5 ?_
      refine gz_iload_n (pc := 27) dX8_cutBy_27 rfl rfl ?_
      refine gz_gk hf (fun c_6 hf => ?_)
      refine gz_iald (pc := 28) dX8_cutBy_28 c_6 ?_
      refine gz_aload_n (pc := 29) dX8_cutBy_29 rfl rfl ?_
      refine gz_gb hf (fun r_7 er_7 hf => ?_)
      refine gz_getR (pc := 30) dX8_cutBy_30 fl_RX8_96 rfl (gz_shs c_1) er_7 ?_
      refine gz_iload_n (pc := 33) dX8_cutBy_33 rfl rfl ?_
      refine gz_gk hf (fun c_8 hf => ?_)
      refine gz_iald (pc := 34) dX8_cutBy_34 c_8 ?_
      refine gz_iload_n (pc := 35) dX8_cutBy_35 rfl rfl ?_
      refine gz_iconst (v := (-1 : Int32)) (pc := 36) dX8_cutBy_36 rfl ?_
      refine gz_ixor (pc := 37) dX8_cutBy_37 ?_
      refine gz_iand (pc := 38) dX8_cutBy_38 ?_
      refine gz_cSI (av := [.int ((h.2.1 r_7 x3.toNatClampNeg) &&& (x1 ^^^ (-1 : Int32)))]) (st := [.int (h.2.1 r_5 x3.toNatClampNeg), .int x2]) (pc := 39) dX8_cutBy_39 kl_RX8_226 rfl rfl (Nat.le_of_ble_eq_true rfl) (by show d + 1 + 0 + 1 ≤ d + 2; omega) (sJ6_bitCount_0f7a4 (d := d + 1) (gz_gc hf)) (fun y_10 h_9 hf => ?_)
      refine gz_min (pc := 42) dX8_cutBy_42 kmx_RX8_382 (by show 1 ≤ d + 2; omega) (Nat.le_of_ble_eq_true rfl) ?_
      refine gz_iadd (pc := 45) dX8_cutBy_45 ?_
      refine gz_istore_n (lv := [.ref a0, .int x1, .int (x2 + (gz_mn2 (h.2.1 r_5 x3.toNatClampNeg) y_10)), .int x3]) (pc := 46) dX8_cutBy_46 rfl (by decide) rfl ?_
      refine gz_iinc (v := x3 + 1) (lv := [.ref a0, .int x1, .int (x2 + (gz_mn2 (h.2.1 r_5 x3.toNatClampNeg) y_10)), .int (x3 + 1)]) (pc := 47) dX8_cutBy_47 rfl rfl (by decide) rfl ?_
      refine gz_goto (tgt := 11) (pc := 50) dX8_cutBy_50 rfl ?_
      exact ih a0 x1 (x2 + (gz_mn2 (h.2.1 r_5 x3.toNatClampNeg) y_10)) (x3 + 1) h_9 hf
def fX8_cutBy_0  (a0 : Nat) (x1 : Int32) (h : gz_H) : Option (Int32 × gz_H) :=
    gz_ck (gz_sh h a0 8 19) <|
    gz_br (h.2.2.2 a0 9) fun r_2 =>
    gz_ck (gz_sh h r_2 1 4) <|
    gz_b2 (fX1_roomOf r_2 x1 h) fun y_4 h_3 =>
    fX8_cutBy_11 gz_fu a0 x1 y_4 (0 : Int32) h_3
set_option maxRecDepth 100000 in
set_option maxHeartbeats 1000000 in
theorem sX8_cutBy_0 {G : gz_G} {d l0 s0 : Nat} {Q : Int32 → gz_H → Prop} (a0 : Nat) (x1 : Int32) (h : gz_H) (hf : gz_g (fX8_cutBy_0  a0 x1 h) Q) : gz_Ok G mX8_cutBy (d + 2, l0, s0, 0, 0) 0 [.ref a0, .int x1, .retAddr 0, .retAddr 0] [] h (gz_qi Q) := by
  unfold fX8_cutBy_0 at hf
  refine gz_aload_n (pc := 0) dX8_cutBy_0 rfl rfl ?_
  refine gz_gk hf (fun c_1 hf => ?_)
  refine gz_gb hf (fun r_2 er_2 hf => ?_)
  refine gz_getR (pc := 1) dX8_cutBy_1 fl_RX8_70 rfl (gz_shs c_1) er_2 ?_
  refine gz_iload_n (pc := 4) dX8_cutBy_4 rfl rfl ?_
  refine gz_gk hf (fun c_5 hf => ?_)
  refine gz_cVI (av := [.int x1]) (st := []) (pc := 5) dX8_cutBy_5 kl_RX8_379 rfl (gz_shs c_5) rfl rfl (Nat.le_of_ble_eq_true rfl) (by show d + 0 + 1 + 1 ≤ d + 2; omega) (sX1_roomOf (d := d + 0) (gz_gc hf)) (fun y_4 h_3 hf => ?_)
  refine gz_istore_n (lv := [.ref a0, .int x1, .int y_4, .retAddr 0]) (pc := 8) dX8_cutBy_8 rfl (by decide) rfl ?_
  refine gz_iconst (v := (0 : Int32)) (pc := 9) dX8_cutBy_9 rfl ?_
  refine gz_istore_n (lv := [.ref a0, .int x1, .int y_4, .int (0 : Int32)]) (pc := 10) dX8_cutBy_10 rfl (by decide) rfl ?_
  exact sX8_cutBy_11 gz_fu a0 x1 y_4 (0 : Int32) h_3 hf
def fX8_cutBy (a0 : Nat) (x1 : Int32) (h : gz_H) : Option (Int32 × gz_H) := fX8_cutBy_0 a0 x1 h
theorem sX8_cutBy {G : gz_G} {d : Nat} {a0 : Nat} {x1 : Int32} {h : gz_H} {Q : Int32 → gz_H → Prop} (hf : gz_g (fX8_cutBy a0 x1 h) Q) : gz_Cl G mX8_cutBy (d + 2) 0 0 [.ref a0, .int x1] h (gz_qi Q) := gz_cl_of (lo := [.ref a0, .int x1, .retAddr 0, .retAddr 0]) (by decide) rfl rfl (Nat.le_of_ble_eq_true rfl) (sX8_cutBy_0 a0 x1 h hf)
