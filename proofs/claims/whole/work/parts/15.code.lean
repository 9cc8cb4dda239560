theorem dX8_row_0 : decode cX8_row 0 = .ok (.aload_n 0, 1) := by decide +kernel
theorem dX8_row_1 : decode cX8_row 1 = .ok (.aload_n 0, 1) := by decide +kernel
theorem dX8_row_2 : decode cX8_row 2 = .ok (.getfield 14, 3) := by decide +kernel
theorem dX8_row_5 : decode cX8_row 5 = .ok (.iload_n 1, 1) := by decide +kernel
theorem dX8_row_6 : decode cX8_row 6 = .ok (.iload_n 2, 1) := by decide +kernel
theorem dX8_row_7 : decode cX8_row 7 = .ok (.iconst 0, 1) := by decide +kernel
theorem dX8_row_8 : decode cX8_row 8 = .ok (.invokevirtual 103, 3) := by decide +kernel
theorem dX8_row_11 : decode cX8_row 11 = .ok (.ireturn, 1) := by decide +kernel
def fX8_row_0  (a0 : Nat) (x1 : Int32) (x2 : Int32) (h : gz_H) : Option (Int32 × gz_H) :=
    gz_ck (gz_sh h a0 8 19) <|
    gz_br (h.2.2.2 a0 0) fun r_2 =>
    gz_b2 (fX8_layOut a0 r_2 x1 x2 (0 : Int32) h) fun y_4 h_3 =>
    some (y_4, h_3)
set_option maxRecDepth 100000 in
set_option maxHeartbeats 1000000 in
theorem sX8_row_0 {G : gz_G} {d l0 s0 : Nat} {Q : Int32 → gz_H → Prop} (a0 : Nat) (x1 : Int32) (x2 : Int32) (h : gz_H) (hf : gz_g (fX8_row_0  a0 x1 x2 h) Q) : gz_Ok G mX8_row (d + 3, l0, s0, 0, 0) 0 [.ref a0, .int x1, .int x2] [] h (gz_qi Q) := by
  unfold fX8_row_0 at hf
  refine gz_aload_n (pc := 0) dX8_row_0 rfl rfl ?_
  refine gz_aload_n (pc := 1) dX8_row_1 rfl rfl ?_
  refine gz_gk hf (fun c_1 hf => ?_)
  refine gz_gb hf (fun r_2 er_2 hf => ?_)
  refine gz_getR (pc := 2) dX8_row_2 fl_RX8_14 rfl (gz_shs c_1) er_2 ?_
  refine gz_iload_n (pc := 5) dX8_row_5 rfl rfl ?_
  refine gz_iload_n (pc := 6) dX8_row_6 rfl rfl ?_
  refine gz_iconst (v := (0 : Int32)) (pc := 7) dX8_row_7 rfl ?_
  refine gz_cVI (av := [.ref r_2, .int x1, .int x2, .int (0 : Int32)]) (st := []) (pc := 8) dX8_row_8 kl_RX8_103 rfl (gz_shs c_1) rfl rfl (Nat.le_of_ble_eq_true rfl) (by show d + 0 + 2 + 1 ≤ d + 3; omega) (sX8_layOut (d := d + 0) (gz_gc hf)) (fun y_4 h_3 hf => ?_)
  exact gz_irt (pc := 11) dX8_row_11 rfl rfl hf
def fX8_row (a0 : Nat) (x1 : Int32) (x2 : Int32) (h : gz_H) : Option (Int32 × gz_H) := fX8_row_0 a0 x1 x2 h
theorem sX8_row {G : gz_G} {d : Nat} {a0 : Nat} {x1 : Int32} {x2 : Int32} {h : gz_H} {Q : Int32 → gz_H → Prop} (hf : gz_g (fX8_row a0 x1 x2 h) Q) : gz_Cl G mX8_row (d + 3) 0 0 [.ref a0, .int x1, .int x2] h (gz_qi Q) := gz_cl_of (lo := [.ref a0, .int x1, .int x2]) (by decide) rfl rfl (Nat.le_of_ble_eq_true rfl) (sX8_row_0 a0 x1 x2 h hf)
theorem dX8_refusalOfCell_0 : decode cX8_refusalOfCell 0 = .ok (.aload_n 1, 1) := by decide +kernel
theorem dX8_refusalOfCell_1 : decode cX8_refusalOfCell 1 = .ok (.iload_n 2, 1) := by decide +kernel
theorem dX8_refusalOfCell_2 : decode cX8_refusalOfCell 2 = .ok (.invokevirtual 118, 3) := by decide +kernel
theorem dX8_refusalOfCell_5 : decode cX8_refusalOfCell 5 = .ok (.ifCond .ne 5, 3) := by decide +kernel
theorem dX8_refusalOfCell_8 : decode cX8_refusalOfCell 8 = .ok (.iconst (-1), 1) := by decide +kernel
theorem dX8_refusalOfCell_9 : decode cX8_refusalOfCell 9 = .ok (.ireturn, 1) := by decide +kernel
theorem dX8_refusalOfCell_10 : decode cX8_refusalOfCell 10 = .ok (.aload_n 1, 1) := by decide +kernel
theorem dX8_refusalOfCell_11 : decode cX8_refusalOfCell 11 = .ok (.iload_n 2, 1) := by decide +kernel
theorem dX8_refusalOfCell_12 : decode cX8_refusalOfCell 12 = .ok (.invokevirtual 122, 3) := by decide +kernel
theorem dX8_refusalOfCell_15 : decode cX8_refusalOfCell 15 = .ok (.ifCond .ne 12, 3) := by decide +kernel
theorem dX8_refusalOfCell_18 : decode cX8_refusalOfCell 18 = .ok (.aload_n 0, 1) := by decide +kernel
theorem dX8_refusalOfCell_19 : decode cX8_refusalOfCell 19 = .ok (.getfield 31, 3) := by decide +kernel
theorem dX8_refusalOfCell_22 : decode cX8_refusalOfCell 22 = .ok (.iconst 1, 1) := by decide +kernel
theorem dX8_refusalOfCell_23 : decode cX8_refusalOfCell 23 = .ok (.invokevirtual 125, 3) := by decide +kernel
theorem dX8_refusalOfCell_26 : decode cX8_refusalOfCell 26 = .ok (.ireturn, 1) := by decide +kernel
theorem dX8_refusalOfCell_27 : decode cX8_refusalOfCell 27 = .ok (.iload_n 3, 1) := by decide +kernel
theorem dX8_refusalOfCell_28 : decode cX8_refusalOfCell 28 = .ok (.ifCond .lt 13, 3) := by decide +kernel
theorem dX8_refusalOfCell_31 : decode cX8_refusalOfCell 31 = .ok (.iload_n 3, 1) := by decide +kernel
theorem dX8_refusalOfCell_32 : decode cX8_refusalOfCell 32 = .ok (.aload_n 1, 1) := by decide +kernel
theorem dX8_refusalOfCell_33 : decode cX8_refusalOfCell 33 = .ok (.getfield 129, 3) := by decide +kernel
theorem dX8_refusalOfCell_36 : decode cX8_refusalOfCell 36 = .ok (.iload_n 2, 1) := by decide +kernel
theorem dX8_refusalOfCell_37 : decode cX8_refusalOfCell 37 = .ok (.iaload, 1) := by decide +kernel
theorem dX8_refusalOfCell_38 : decode cX8_refusalOfCell 38 = .ok (.if_icmp .lt 12, 3) := by decide +kernel
theorem dX8_refusalOfCell_41 : decode cX8_refusalOfCell 41 = .ok (.aload_n 0, 1) := by decide +kernel
theorem dX8_refusalOfCell_42 : decode cX8_refusalOfCell 42 = .ok (.getfield 31, 3) := by decide +kernel
theorem dX8_refusalOfCell_45 : decode cX8_refusalOfCell 45 = .ok (.iconst 2, 1) := by decide +kernel
theorem dX8_refusalOfCell_46 : decode cX8_refusalOfCell 46 = .ok (.invokevirtual 125, 3) := by decide +kernel
theorem dX8_refusalOfCell_49 : decode cX8_refusalOfCell 49 = .ok (.ireturn, 1) := by decide +kernel
theorem dX8_refusalOfCell_50 : decode cX8_refusalOfCell 50 = .ok (.iconst 0, 1) := by decide +kernel
theorem dX8_refusalOfCell_51 : decode cX8_refusalOfCell 51 = .ok (.ireturn, 1) := by decide +kernel
def fX8_refusalOfCell_41  (a0 : Nat) (h : gz_H) : Option (Int32 × gz_H) :=
    gz_ck (gz_sh h a0 8 19) <|
    gz_br (h.2.2.2 a0 3) fun r_2 =>
    gz_ck (gz_sh h r_2 0 2) <|
    gz_b2 (fX0_answer r_2 (2 : Int32) h) fun y_4 h_3 =>
    some (y_4, h_3)
set_option maxRecDepth 100000 in
set_option maxHeartbeats 1000000 in
theorem sX8_refusalOfCell_41 {G : gz_G} {d l0 s0 : Nat} {Q : Int32 → gz_H → Prop} (a0 : Nat) (h : gz_H) (hf : gz_g (fX8_refusalOfCell_41  a0 h) Q) : gz_Ok G mX8_refusalOfCell (d + 1, l0, s0, 0, 0) 41 [.ref a0, .retAddr 0, .retAddr 0, .retAddr 0] [] h (gz_qi Q) := by
  unfold fX8_refusalOfCell_41 at hf
  refine gz_aload_n (pc := 41) dX8_refusalOfCell_41 rfl rfl ?_
  refine gz_gk hf (fun c_1 hf => ?_)
  refine gz_gb hf (fun r_2 er_2 hf => ?_)
  refine gz_getR (pc := 42) dX8_refusalOfCell_42 fl_RX8_31 rfl (gz_shs c_1) er_2 ?_
  refine gz_iconst (v := (2 : Int32)) (pc := 45) dX8_refusalOfCell_45 rfl ?_
  refine gz_gk hf (fun c_5 hf => ?_)
  refine gz_cVI (av := [.int (2 : Int32)]) (st := []) (pc := 46) dX8_refusalOfCell_46 kl_RX8_125 rfl (gz_shs c_5) rfl rfl (Nat.le_of_ble_eq_true rfl) (by show d + 0 + 0 + 1 ≤ d + 1; omega) (sX0_answer (d := d + 0) (gz_gc hf)) (fun y_4 h_3 hf => ?_)
  exact gz_irt (pc := 49) dX8_refusalOfCell_49 rfl rfl hf
def fX8_refusalOfCell_0  (a0 : Nat) (a1 : Nat) (x2 : Int32) (x3 : Int32) (h : gz_H) : Option (Int32 × gz_H) :=
    gz_ck (gz_sh h a1 7 3) <|
    gz_b2 (fX7_knows a1 x2 h) fun y_2 h_1 =>
    if y_2 = 0 then (
     some ((-1 : Int32), h_1)
    ) else (
     gz_ck (gz_sh h_1 a1 7 3) <|
     gz_b2 (fX7_has a1 x2 h_1) fun y_6 h_5 =>
     if y_6 = 0 then (
      gz_ck (gz_sh h_5 a0 8 19) <|
      gz_br (h_5.2.2.2 a0 3) fun r_15 =>
      gz_ck (gz_sh h_5 r_15 0 2) <|
      gz_b2 (fX0_answer r_15 (1 : Int32) h_5) fun y_17 h_16 =>
      some (y_17, h_16)
     ) else (
      if x3 < 0 then (
       fX8_refusalOfCell_41 a0 h_5
      ) else (
       gz_ck (gz_sh h_5 a1 7 3) <|
       gz_br (h_5.2.2.2 a1 2) fun r_11 =>
       gz_ck (gz_inb h_5 r_11 10 x2) <|
       if x3 < (h_5.2.1 r_11 x2.toNatClampNeg) then (
        some ((0 : Int32), h_5)
       ) else (
        fX8_refusalOfCell_41 a0 h_5
       )
      )
     )
    )
set_option maxRecDepth 100000 in
set_option maxHeartbeats 1000000 in
theorem sX8_refusalOfCell_0 {G : gz_G} {d l0 s0 : Nat} {Q : Int32 → gz_H → Prop} (a0 : Nat) (a1 : Nat) (x2 : Int32) (x3 : Int32) (h : gz_H) (hf : gz_g (fX8_refusalOfCell_0  a0 a1 x2 x3 h) Q) : gz_Ok G mX8_refusalOfCell (d + 1, l0, s0, 0, 0) 0 [.ref a0, .ref a1, .int x2, .int x3] [] h (gz_qi Q) := by
  unfold fX8_refusalOfCell_0 at hf
  refine gz_aload_n (pc := 0) dX8_refusalOfCell_0 rfl rfl ?_
  refine gz_iload_n (pc := 1) dX8_refusalOfCell_1 rfl rfl ?_
  refine gz_gk hf (fun c_3 hf => ?_)
  refine gz_cVI (av := [.int x2]) (st := []) (pc := 2) dX8_refusalOfCell_2 kl_RX8_118 rfl (gz_shs c_3) rfl rfl (Nat.le_of_ble_eq_true rfl) (by show d + 0 + 0 + 1 ≤ d + 1; omega) (sX7_knows (d := d + 0) (gz_gc hf)) (fun y_2 h_1 hf => ?_)
  refine gz_if_ne (tgt := 10) (pc := 5) dX8_refusalOfCell_5 rfl (fun c_4 => ?_) (fun c_4 => ?_)
  · have hf := gz_gF hf c_4
    refine gz_aload_n (pc := 10) dX8_refusalOfCell_10 rfl rfl ?_
    refine gz_iload_n (pc := 11) dX8_refusalOfCell_11 rfl rfl ?_
    refine gz_gk hf (fun c_7 hf => ?_)
    refine gz_cVI (av := [.int x2]) (st := []) (pc := 12) dX8_refusalOfCell_12 kl_RX8_122 rfl (gz_shs c_7) rfl rfl (Nat.le_of_ble_eq_true rfl) (by show d + 0 + 0 + 1 ≤ d + 1; omega) (sX7_has (d := d + 0) (gz_gc hf)) (fun y_6 h_5 hf => ?_)
    refine gz_if_ne (tgt := 27) (pc := 15) dX8_refusalOfCell_15 rfl (fun c_8 => ?_) (fun c_8 => ?_)
    · have hf := gz_gF hf c_8
      refine gz_iload_n (pc := 27) dX8_refusalOfCell_27 rfl rfl ?_
      refine gz_if_lt (tgt := 41) (pc := 28) dX8_refusalOfCell_28 rfl (fun c_9 => ?_) (fun c_9 => ?_)
      · have hf := gz_gT hf c_9
        refine gz_fg (lv := [.ref a0, .retAddr 0, .retAddr 0, .retAddr 0]) ⟨Or.inr rfl, ⟨Or.inl rfl, ⟨Or.inl rfl, ⟨Or.inl rfl, trivial⟩⟩⟩⟩ ?_
        exact sX8_refusalOfCell_41 a0 h_5 hf
      · have hf := gz_gF hf c_9
        refine gz_iload_n (pc := 31) dX8_refusalOfCell_31 rfl rfl ?_
        refine gz_aload_n (pc := 32) dX8_refusalOfCell_32 rfl rfl ?_
        refine gz_gk hf (fun c_10 hf => ?_)
        refine gz_gb hf (fun r_11 er_11 hf => ?_)
        refine gz_getR (pc := 33) dX8_refusalOfCell_33 fl_RX8_129 rfl (gz_shs c_10) er_11 ?_
        refine gz_iload_n (pc := 36) dX8_refusalOfCell_36 rfl rfl ?_
        refine gz_gk hf (fun c_12 hf => ?_)
        refine gz_iald (pc := 37) dX8_refusalOfCell_37 c_12 ?_
        refine gz_icmp_lt (tgt := 50) (pc := 38) dX8_refusalOfCell_38 rfl (fun c_13 => ?_) (fun c_13 => ?_)
        · have hf := gz_gT hf c_13
          refine gz_iconst (v := (0 : Int32)) (pc := 50) dX8_refusalOfCell_50 rfl ?_
          exact gz_irt (pc := 51) dX8_refusalOfCell_51 rfl rfl hf
        · have hf := gz_gF hf c_13
          refine gz_fg (lv := [.ref a0, .retAddr 0, .retAddr 0, .retAddr 0]) ⟨Or.inr rfl, ⟨Or.inl rfl, ⟨Or.inl rfl, ⟨Or.inl rfl, trivial⟩⟩⟩⟩ ?_
          exact sX8_refusalOfCell_41 a0 h_5 hf
    · have hf := gz_gT hf c_8
      refine gz_aload_n (pc := 18) dX8_refusalOfCell_18 rfl rfl ?_
      refine gz_gk hf (fun c_14 hf => ?_)
      refine gz_gb hf (fun r_15 er_15 hf => ?_)
      refine gz_getR (pc := 19) dX8_refusalOfCell_19 fl_RX8_31 rfl (gz_shs c_14) er_15 ?_
      refine gz_iconst (v := (1 : Int32)) (pc := 22) dX8_refusalOfCell_22 rfl ?_
      refine gz_gk hf (fun c_18 hf => ?_)
      refine gz_cVI (av := [.int (1 : Int32)]) (st := []) (pc := 23) dX8_refusalOfCell_23 kl_RX8_125 rfl (gz_shs c_18) rfl rfl (Nat.le_of_ble_eq_true rfl) (by show d + 0 + 0 + 1 ≤ d + 1; omega) (sX0_answer (d := d + 0) (gz_gc hf)) (fun y_17 h_16 hf => ?_)
      exact gz_irt (pc := 26) dX8_refusalOfCell_26 rfl rfl hf
  · have hf := gz_gT hf c_4
    refine gz_iconst (v := (-1 : Int32)) (pc := 8) dX8_refusalOfCell_8 rfl ?_
    exact gz_irt (pc := 9) dX8_refusalOfCell_9 rfl rfl hf
def fX8_refusalOfCell (a0 : Nat) (a1 : Nat) (x2 : Int32) (x3 : Int32) (h : gz_H) : Option (Int32 × gz_H) := fX8_refusalOfCell_0 a0 a1 x2 x3 h
theorem sX8_refusalOfCell {G : gz_G} {d : Nat} {a0 : Nat} {a1 : Nat} {x2 : Int32} {x3 : Int32} {h : gz_H} {Q : Int32 → gz_H → Prop} (hf : gz_g (fX8_refusalOfCell a0 a1 x2 x3 h) Q) : gz_Cl G mX8_refusalOfCell (d + 1) 0 0 [.ref a0, .ref a1, .int x2, .int x3] h (gz_qi Q) := gz_cl_of (lo := [.ref a0, .ref a1, .int x2, .int x3]) (by decide) rfl rfl (Nat.le_of_ble_eq_true rfl) (sX8_refusalOfCell_0 a0 a1 x2 x3 h hf)
theorem dX8_lay_0 : decode cX8_lay 0 = .ok (.aload_n 0, 1) := by decide +kernel
theorem dX8_lay_1 : decode cX8_lay 1 = .ok (.aload_n 0, 1) := by decide +kernel
theorem dX8_lay_2 : decode cX8_lay 2 = .ok (.getfield 14, 3) := by decide +kernel
theorem dX8_lay_5 : decode cX8_lay 5 = .ok (.iload_n 1, 1) := by decide +kernel
theorem dX8_lay_6 : decode cX8_lay 6 = .ok (.iload_n 2, 1) := by decide +kernel
theorem dX8_lay_7 : decode cX8_lay 7 = .ok (.invokevirtual 107, 3) := by decide +kernel
theorem dX8_lay_10 : decode cX8_lay 10 = .ok (.istore 4, 2) := by decide +kernel
theorem dX8_lay_12 : decode cX8_lay 12 = .ok (.iload 4, 2) := by decide +kernel
theorem dX8_lay_14 : decode cX8_lay 14 = .ok (.ifCond .eq 6, 3) := by decide +kernel
theorem dX8_lay_17 : decode cX8_lay 17 = .ok (.iload 4, 2) := by decide +kernel
theorem dX8_lay_19 : decode cX8_lay 19 = .ok (.ireturn, 1) := by decide +kernel
theorem dX8_lay_20 : decode cX8_lay 20 = .ok (.aload_n 0, 1) := by decide +kernel
theorem dX8_lay_21 : decode cX8_lay 21 = .ok (.aload_n 0, 1) := by decide +kernel
theorem dX8_lay_22 : decode cX8_lay 22 = .ok (.getfield 14, 3) := by decide +kernel
theorem dX8_lay_25 : decode cX8_lay 25 = .ok (.getfield 111, 3) := by decide +kernel
theorem dX8_lay_28 : decode cX8_lay 28 = .ok (.iload_n 1, 1) := by decide +kernel
theorem dX8_lay_29 : decode cX8_lay 29 = .ok (.aaload, 1) := by decide +kernel
theorem dX8_lay_30 : decode cX8_lay 30 = .ok (.iload_n 2, 1) := by decide +kernel
theorem dX8_lay_31 : decode cX8_lay 31 = .ok (.iaload, 1) := by decide +kernel
theorem dX8_lay_32 : decode cX8_lay 32 = .ok (.putfield 115, 3) := by decide +kernel
theorem dX8_lay_35 : decode cX8_lay 35 = .ok (.aload_n 0, 1) := by decide +kernel
theorem dX8_lay_36 : decode cX8_lay 36 = .ok (.getfield 14, 3) := by decide +kernel
theorem dX8_lay_39 : decode cX8_lay 39 = .ok (.getfield 111, 3) := by decide +kernel
theorem dX8_lay_42 : decode cX8_lay 42 = .ok (.iload_n 1, 1) := by decide +kernel
theorem dX8_lay_43 : decode cX8_lay 43 = .ok (.aaload, 1) := by decide +kernel
theorem dX8_lay_44 : decode cX8_lay 44 = .ok (.iload_n 2, 1) := by decide +kernel
theorem dX8_lay_45 : decode cX8_lay 45 = .ok (.iload_n 3, 1) := by decide +kernel
theorem dX8_lay_46 : decode cX8_lay 46 = .ok (.iastore, 1) := by decide +kernel
theorem dX8_lay_47 : decode cX8_lay 47 = .ok (.iconst 1, 1) := by decide +kernel
theorem dX8_lay_48 : decode cX8_lay 48 = .ok (.ireturn, 1) := by decide +kernel
def fX8_lay_0  (a0 : Nat) (x1 : Int32) (x2 : Int32) (x3 : Int32) (h : gz_H) : Option (Int32 × gz_H) :=
    gz_ck (gz_sh h a0 8 19) <|
    gz_br (h.2.2.2 a0 0) fun r_2 =>
    gz_b2 (fX8_refusalOfCell a0 r_2 x1 x2 h) fun y_4 h_3 =>
    if y_4 = 0 then (
     gz_ck (gz_sh h_3 a0 8 19) <|
     gz_br (h_3.2.2.2 a0 0) fun r_7 =>
     gz_ck (gz_sh h_3 r_7 7 3) <|
     gz_br (h_3.2.2.2 r_7 1) fun r_9 =>
     gz_ck (gz_inb h_3 r_9 13 x1) <|
     gz_br (h_3.2.2.2 r_9 x1.toNatClampNeg) fun r_11 =>
     gz_ck (gz_inb h_3 r_11 10 x2) <|
     gz_lt (uI h_3 a0 18 (h_3.2.1 r_11 x2.toNatClampNeg)) fun h_13 =>
     gz_ck (gz_sh h_13 a0 8 19) <|
     gz_br (h_13.2.2.2 a0 0) fun r_15 =>
     gz_ck (gz_sh h_13 r_15 7 3) <|
     gz_br (h_13.2.2.2 r_15 1) fun r_17 =>
     gz_ck (gz_inb h_13 r_17 13 x1) <|
     gz_br (h_13.2.2.2 r_17 x1.toNatClampNeg) fun r_19 =>
     gz_ck (gz_inb h_13 r_19 10 x2) <|
     gz_lt (uI h_13 r_19 x2.toNatClampNeg x3) fun h_21 =>
     some ((1 : Int32), h_21)
    ) else (
     some (y_4, h_3)
    )
set_option maxRecDepth 100000 in
set_option maxHeartbeats 1000000 in
theorem sX8_lay_0 {G : gz_G} {d l0 s0 : Nat} {Q : Int32 → gz_H → Prop} (a0 : Nat) (x1 : Int32) (x2 : Int32) (x3 : Int32) (h : gz_H) (hf : gz_g (fX8_lay_0  a0 x1 x2 x3 h) Q) : gz_Ok G mX8_lay (d + 2, l0, s0, 0, 0) 0 [.ref a0, .int x1, .int x2, .int x3, .retAddr 0] [] h (gz_qi Q) := by
  unfold fX8_lay_0 at hf
  refine gz_aload_n (pc := 0) dX8_lay_0 rfl rfl ?_
  refine gz_aload_n (pc := 1) dX8_lay_1 rfl rfl ?_
  refine gz_gk hf (fun c_1 hf => ?_)
  refine gz_gb hf (fun r_2 er_2 hf => ?_)
  refine gz_getR (pc := 2) dX8_lay_2 fl_RX8_14 rfl (gz_shs c_1) er_2 ?_
  refine gz_iload_n (pc := 5) dX8_lay_5 rfl rfl ?_
  refine gz_iload_n (pc := 6) dX8_lay_6 rfl rfl ?_
  refine gz_cVI (av := [.ref r_2, .int x1, .int x2]) (st := []) (pc := 7) dX8_lay_7 kl_RX8_107 rfl (gz_shs c_1) rfl rfl (Nat.le_of_ble_eq_true rfl) (by show d + 0 + 1 + 1 ≤ d + 2; omega) (sX8_refusalOfCell (d := d + 0) (gz_gc hf)) (fun y_4 h_3 hf => ?_)
  refine gz_istore (lv := [.ref a0, .int x1, .int x2, .int x3, .int y_4]) (pc := 10) dX8_lay_10 (by decide) rfl ?_
  refine gz_iload (pc := 12) dX8_lay_12 rfl ?_
  refine gz_if_eq (tgt := 20) (pc := 14) dX8_lay_14 rfl (fun c_5 => ?_) (fun c_5 => ?_)
  · have hf := gz_gT hf c_5
    refine gz_aload_n (pc := 20) dX8_lay_20 rfl rfl ?_
    refine gz_aload_n (pc := 21) dX8_lay_21 rfl rfl ?_
    refine gz_gk hf (fun c_6 hf => ?_)
    refine gz_gb hf (fun r_7 er_7 hf => ?_)
    refine gz_getR (pc := 22) dX8_lay_22 fl_RX8_14 rfl (gz_shs c_6) er_7 ?_
    refine gz_gk hf (fun c_8 hf => ?_)
    refine gz_gb hf (fun r_9 er_9 hf => ?_)
    refine gz_getR (pc := 25) dX8_lay_25 fl_RX8_111 rfl (gz_shs c_8) er_9 ?_
    refine gz_iload_n (pc := 28) dX8_lay_28 rfl rfl ?_
    refine gz_gk hf (fun c_10 hf => ?_)
    refine gz_gb hf (fun r_11 er_11 hf => ?_)
    refine gz_aald (Or.inr (Or.inr rfl)) (pc := 29) dX8_lay_29 c_10 er_11 ?_
    refine gz_iload_n (pc := 30) dX8_lay_30 rfl rfl ?_
    refine gz_gk hf (fun c_12 hf => ?_)
    refine gz_iald (pc := 31) dX8_lay_31 c_12 ?_
    refine gz_putI (pc := 32) dX8_lay_32 fw_X8_lay_115 rfl rfl rfl (gz_shs c_6) ?_
    refine gz_nmH (fun h_13 eh_13 => ?_)
    have hf := gz_gl eh_13 hf
    refine gz_aload_n (pc := 35) dX8_lay_35 rfl rfl ?_
    refine gz_gk hf (fun c_14 hf => ?_)
    refine gz_gb hf (fun r_15 er_15 hf => ?_)
    refine gz_getR (pc := 36) dX8_lay_36 fl_RX8_14 rfl (gz_shs c_14) er_15 ?_
    refine gz_gk hf (fun c_16 hf => ?_)
    refine gz_gb hf (fun r_17 er_17 hf => ?_)
    refine gz_getR (pc := 39) dX8_lay_39 fl_RX8_111 rfl (gz_shs c_16) er_17 ?_
    refine gz_iload_n (pc := 42) dX8_lay_42 rfl rfl ?_
    refine gz_gk hf (fun c_18 hf => ?_)
    refine gz_gb hf (fun r_19 er_19 hf => ?_)
    refine gz_aald (Or.inr (Or.inr rfl)) (pc := 43) dX8_lay_43 c_18 er_19 ?_
    refine gz_iload_n (pc := 44) dX8_lay_44 rfl rfl ?_
    refine gz_iload_n (pc := 45) dX8_lay_45 rfl rfl ?_
    refine gz_gk hf (fun c_20 hf => ?_)
    refine gz_iast (pc := 46) dX8_lay_46 c_20 ?_
    refine gz_nmH (fun h_21 eh_21 => ?_)
    have hf := gz_gl eh_21 hf
    refine gz_iconst (v := (1 : Int32)) (pc := 47) dX8_lay_47 rfl ?_
    exact gz_irt (pc := 48) dX8_lay_48 rfl rfl hf
  · have hf := gz_gF hf c_5
    refine gz_iload (pc := 17) dX8_lay_17 rfl ?_
    exact gz_irt (pc := 19) dX8_lay_19 rfl rfl hf
def fX8_lay (a0 : Nat) (x1 : Int32) (x2 : Int32) (x3 : Int32) (h : gz_H) : Option (Int32 × gz_H) := fX8_lay_0 a0 x1 x2 x3 h
theorem sX8_lay {G : gz_G} {d : Nat} {a0 : Nat} {x1 : Int32} {x2 : Int32} {x3 : Int32} {h : gz_H} {Q : Int32 → gz_H → Prop} (hf : gz_g (fX8_lay a0 x1 x2 x3 h) Q) : gz_Cl G mX8_lay (d + 2) 0 0 [.ref a0, .int x1, .int x2, .int x3] h (gz_qi Q) := gz_cl_of (lo := [.ref a0, .int x1, .int x2, .int x3, .retAddr 0]) (by decide) rfl rfl (Nat.le_of_ble_eq_true rfl) (sX8_lay_0 a0 x1 x2 x3 h hf)
theorem dX8_at_0 : decode cX8_at 0 = .ok (.aload_n 0, 1) := by decide +kernel
theorem dX8_at_1 : decode cX8_at 1 = .ok (.aload_n 0, 1) := by decide +kernel
theorem dX8_at_2 : decode cX8_at 2 = .ok (.getfield 14, 3) := by decide +kernel
theorem dX8_at_5 : decode cX8_at 5 = .ok (.iload_n 1, 1) := by decide +kernel
theorem dX8_at_6 : decode cX8_at 6 = .ok (.iload_n 2, 1) := by decide +kernel
theorem dX8_at_7 : decode cX8_at 7 = .ok (.invokevirtual 107, 3) := by decide +kernel
theorem dX8_at_10 : decode cX8_at 10 = .ok (.istore_n 3, 1) := by decide +kernel
theorem dX8_at_11 : decode cX8_at 11 = .ok (.iload_n 3, 1) := by decide +kernel
theorem dX8_at_12 : decode cX8_at 12 = .ok (.ifCond .eq 5, 3) := by decide +kernel
theorem dX8_at_15 : decode cX8_at 15 = .ok (.iload_n 3, 1) := by decide +kernel
theorem dX8_at_16 : decode cX8_at 16 = .ok (.ireturn, 1) := by decide +kernel
theorem dX8_at_17 : decode cX8_at 17 = .ok (.aload_n 0, 1) := by decide +kernel
theorem dX8_at_18 : decode cX8_at 18 = .ok (.aload_n 0, 1) := by decide +kernel
theorem dX8_at_19 : decode cX8_at 19 = .ok (.getfield 14, 3) := by decide +kernel
theorem dX8_at_22 : decode cX8_at 22 = .ok (.getfield 111, 3) := by decide +kernel
theorem dX8_at_25 : decode cX8_at 25 = .ok (.iload_n 1, 1) := by decide +kernel
theorem dX8_at_26 : decode cX8_at 26 = .ok (.aaload, 1) := by decide +kernel
theorem dX8_at_27 : decode cX8_at 27 = .ok (.iload_n 2, 1) := by decide +kernel
theorem dX8_at_28 : decode cX8_at 28 = .ok (.iaload, 1) := by decide +kernel
theorem dX8_at_29 : decode cX8_at 29 = .ok (.putfield 115, 3) := by decide +kernel
theorem dX8_at_32 : decode cX8_at 32 = .ok (.iconst 1, 1) := by decide +kernel
theorem dX8_at_33 : decode cX8_at 33 = .ok (.ireturn, 1) := by decide +kernel
def fX8_at_0  (a0 : Nat) (x1 : Int32) (x2 : Int32) (h : gz_H) : Option (Int32 × gz_H) :=
    gz_ck (gz_sh h a0 8 19) <|
    gz_br (h.2.2.2 a0 0) fun r_2 =>
    gz_b2 (fX8_refusalOfCell a0 r_2 x1 x2 h) fun y_4 h_3 =>
    if y_4 = 0 then (
     gz_ck (gz_sh h_3 a0 8 19) <|
     gz_br (h_3.2.2.2 a0 0) fun r_7 =>
     gz_ck (gz_sh h_3 r_7 7 3) <|
     gz_br (h_3.2.2.2 r_7 1) fun r_9 =>
     gz_ck (gz_inb h_3 r_9 13 x1) <|
     gz_br (h_3.2.2.2 r_9 x1.toNatClampNeg) fun r_11 =>
     gz_ck (gz_inb h_3 r_11 10 x2) <|
     gz_lt (uI h_3 a0 18 (h_3.2.1 r_11 x2.toNatClampNeg)) fun h_13 =>
     some ((1 : Int32), h_13)
    ) else (
     some (y_4, h_3)
    )
set_option maxRecDepth 100000 in
set_option maxHeartbeats 1000000 in
theorem sX8_at_0 {G : gz_G} {d l0 s0 : Nat} {Q : Int32 → gz_H → Prop} (a0 : Nat) (x1 : Int32) (x2 : Int32) (h : gz_H) (hf : gz_g (fX8_at_0  a0 x1 x2 h) Q) : gz_Ok G mX8_at (d + 2, l0, s0, 0, 0) 0 [.ref a0, .int x1, .int x2, .retAddr 0] [] h (gz_qi Q) := by
  unfold fX8_at_0 at hf
  refine gz_aload_n (pc := 0) dX8_at_0 rfl rfl ?_
  refine gz_aload_n (pc := 1) dX8_at_1 rfl rfl ?_
  refine gz_gk hf (fun c_1 hf => ?_)
  refine gz_gb hf (fun r_2 er_2 hf => ?_)
  refine gz_getR (pc := 2) dX8_at_2 fl_RX8_14 rfl (gz_shs c_1) er_2 ?_
  refine gz_iload_n (pc := 5) dX8_at_5 rfl rfl ?_
  refine gz_iload_n (pc := 6) dX8_at_6 rfl rfl ?_
  refine gz_cVI (av := [.ref r_2, .int x1, .int x2]) (st := []) (pc := 7) dX8_at_7 kl_RX8_107 rfl (gz_shs c_1) rfl rfl (Nat.le_of_ble_eq_true rfl) (by show d + 0 + 1 + 1 ≤ d + 2; omega) (sX8_refusalOfCell (d := d + 0) (gz_gc hf)) (fun y_4 h_3 hf => ?_)
  refine gz_istore_n (lv := [.ref a0, .int x1, .int x2, .int y_4]) (pc := 10) dX8_at_10 rfl (by decide) rfl ?_
  refine gz_iload_n (pc := 11) dX8_at_11 rfl rfl ?_
  refine gz_if_eq (tgt := 17) (pc := 12) dX8_at_12 rfl (fun c_5 => ?_) (fun c_5 => ?_)
  · have hf := gz_gT hf c_5
    refine gz_aload_n (pc := 17) dX8_at_17 rfl rfl ?_
    refine gz_aload_n (pc := 18) dX8_at_18 rfl rfl ?_
    refine gz_gk hf (fun c_6 hf => ?_)
    refine gz_gb hf (fun r_7 er_7 hf => ?_)
    refine gz_getR (pc := 19) dX8_at_19 fl_RX8_14 rfl (gz_shs c_6) er_7 ?_
    refine gz_gk hf (fun c_8 hf => ?_)
    refine gz_gb hf (fun r_9 er_9 hf => ?_)
    refine gz_getR (pc := 22) dX8_at_22 fl_RX8_111 rfl (gz_shs c_8) er_9 ?_
    refine gz_iload_n (pc := 25) dX8_at_25 rfl rfl ?_
    refine gz_gk hf (fun c_10 hf => ?_)
    refine gz_gb hf (fun r_11 er_11 hf => ?_)
    refine gz_aald (Or.inr (Or.inr rfl)) (pc := 26) dX8_at_26 c_10 er_11 ?_
    refine gz_iload_n (pc := 27) dX8_at_27 rfl rfl ?_
    refine gz_gk hf (fun c_12 hf => ?_)
    refine gz_iald (pc := 28) dX8_at_28 c_12 ?_
    refine gz_putI (pc := 29) dX8_at_29 fw_X8_at_115 rfl rfl rfl (gz_shs c_6) ?_
    refine gz_nmH (fun h_13 eh_13 => ?_)
    have hf := gz_gl eh_13 hf
    refine gz_iconst (v := (1 : Int32)) (pc := 32) dX8_at_32 rfl ?_
    exact gz_irt (pc := 33) dX8_at_33 rfl rfl hf
  · have hf := gz_gF hf c_5
    refine gz_iload_n (pc := 15) dX8_at_15 rfl rfl ?_
    exact gz_irt (pc := 16) dX8_at_16 rfl rfl hf
def fX8_at (a0 : Nat) (x1 : Int32) (x2 : Int32) (h : gz_H) : Option (Int32 × gz_H) := fX8_at_0 a0 x1 x2 h
theorem sX8_at {G : gz_G} {d : Nat} {a0 : Nat} {x1 : Int32} {x2 : Int32} {h : gz_H} {Q : Int32 → gz_H → Prop} (hf : gz_g (fX8_at a0 x1 x2 h) Q) : gz_Cl G mX8_at (d + 2) 0 0 [.ref a0, .int x1, .int x2] h (gz_qi Q) := gz_cl_of (lo := [.ref a0, .int x1, .int x2, .retAddr 0]) (by decide) rfl rfl (Nat.le_of_ble_eq_true rfl) (sX8_at_0 a0 x1 x2 h hf)
theorem dX8_tear_0 : decode cX8_tear 0 = .ok (.aload_n 0, 1) := by decide +kernel
theorem dX8_tear_1 : decode cX8_tear 1 = .ok (.getfield 14, 3) := by decide +kernel
theorem dX8_tear_4 : decode cX8_tear 4 = .ok (.iload_n 1, 1) := by decide +kernel
theorem dX8_tear_5 : decode cX8_tear 5 = .ok (.invokevirtual 118, 3) := by decide +kernel
theorem dX8_tear_8 : decode cX8_tear 8 = .ok (.ifCond .ne 5, 3) := by decide +kernel
theorem dX8_tear_11 : decode cX8_tear 11 = .ok (.iconst (-1), 1) := by decide +kernel
theorem dX8_tear_12 : decode cX8_tear 12 = .ok (.ireturn, 1) := by decide +kernel
theorem dX8_tear_13 : decode cX8_tear 13 = .ok (.aload_n 0, 1) := by decide +kernel
theorem dX8_tear_14 : decode cX8_tear 14 = .ok (.getfield 14, 3) := by decide +kernel
theorem dX8_tear_17 : decode cX8_tear 17 = .ok (.iload_n 1, 1) := by decide +kernel
theorem dX8_tear_18 : decode cX8_tear 18 = .ok (.invokevirtual 122, 3) := by decide +kernel
theorem dX8_tear_21 : decode cX8_tear 21 = .ok (.ifCond .ne 12, 3) := by decide +kernel
theorem dX8_tear_24 : decode cX8_tear 24 = .ok (.aload_n 0, 1) := by decide +kernel
theorem dX8_tear_25 : decode cX8_tear 25 = .ok (.getfield 31, 3) := by decide +kernel
theorem dX8_tear_28 : decode cX8_tear 28 = .ok (.iconst 1, 1) := by decide +kernel
theorem dX8_tear_29 : decode cX8_tear 29 = .ok (.invokevirtual 125, 3) := by decide +kernel
theorem dX8_tear_32 : decode cX8_tear 32 = .ok (.ireturn, 1) := by decide +kernel
theorem dX8_tear_33 : decode cX8_tear 33 = .ok (.aload_n 0, 1) := by decide +kernel
theorem dX8_tear_34 : decode cX8_tear 34 = .ok (.getfield 14, 3) := by decide +kernel
theorem dX8_tear_37 : decode cX8_tear 37 = .ok (.getfield 129, 3) := by decide +kernel
theorem dX8_tear_40 : decode cX8_tear 40 = .ok (.iload_n 1, 1) := by decide +kernel
theorem dX8_tear_41 : decode cX8_tear 41 = .ok (.iconst (-1), 1) := by decide +kernel
theorem dX8_tear_42 : decode cX8_tear 42 = .ok (.iastore, 1) := by decide +kernel
theorem dX8_tear_43 : decode cX8_tear 43 = .ok (.iconst 1, 1) := by decide +kernel
theorem dX8_tear_44 : decode cX8_tear 44 = .ok (.ireturn, 1) := by decide +kernel
def fX8_tear_0  (a0 : Nat) (x1 : Int32) (h : gz_H) : Option (Int32 × gz_H) :=
    gz_ck (gz_sh h a0 8 19) <|
    gz_br (h.2.2.2 a0 0) fun r_2 =>
    gz_ck (gz_sh h r_2 7 3) <|
    gz_b2 (fX7_knows r_2 x1 h) fun y_4 h_3 =>
    if y_4 = 0 then (
     some ((-1 : Int32), h_3)
    ) else (
     gz_ck (gz_sh h_3 a0 8 19) <|
     gz_br (h_3.2.2.2 a0 0) fun r_8 =>
     gz_ck (gz_sh h_3 r_8 7 3) <|
     gz_b2 (fX7_has r_8 x1 h_3) fun y_10 h_9 =>
     if y_10 = 0 then (
      gz_ck (gz_sh h_9 a0 8 19) <|
      gz_br (h_9.2.2.2 a0 3) fun r_20 =>
      gz_ck (gz_sh h_9 r_20 0 2) <|
      gz_b2 (fX0_answer r_20 (1 : Int32) h_9) fun y_22 h_21 =>
      some (y_22, h_21)
     ) else (
      gz_ck (gz_sh h_9 a0 8 19) <|
      gz_br (h_9.2.2.2 a0 0) fun r_14 =>
      gz_ck (gz_sh h_9 r_14 7 3) <|
      gz_br (h_9.2.2.2 r_14 2) fun r_16 =>
      gz_ck (gz_inb h_9 r_16 10 x1) <|
      gz_lt (uI h_9 r_16 x1.toNatClampNeg (-1 : Int32)) fun h_18 =>
      some ((1 : Int32), h_18)
     )
    )
set_option maxRecDepth 100000 in
set_option maxHeartbeats 1000000 in
theorem sX8_tear_0 {G : gz_G} {d l0 s0 : Nat} {Q : Int32 → gz_H → Prop} (a0 : Nat) (x1 : Int32) (h : gz_H) (hf : gz_g (fX8_tear_0  a0 x1 h) Q) : gz_Ok G mX8_tear (d + 1, l0, s0, 0, 0) 0 [.ref a0, .int x1] [] h (gz_qi Q) := by
  unfold fX8_tear_0 at hf
  refine gz_aload_n (pc := 0) dX8_tear_0 rfl rfl ?_
  refine gz_gk hf (fun c_1 hf => ?_)
  refine gz_gb hf (fun r_2 er_2 hf => ?_)
  refine gz_getR (pc := 1) dX8_tear_1 fl_RX8_14 rfl (gz_shs c_1) er_2 ?_
  refine gz_iload_n (pc := 4) dX8_tear_4 rfl rfl ?_
  refine gz_gk hf (fun c_5 hf => ?_)
  refine gz_cVI (av := [.int x1]) (st := []) (pc := 5) dX8_tear_5 kl_RX8_118 rfl (gz_shs c_5) rfl rfl (Nat.le_of_ble_eq_true rfl) (by show d + 0 + 0 + 1 ≤ d + 1; omega) (sX7_knows (d := d + 0) (gz_gc hf)) (fun y_4 h_3 hf => ?_)
  refine gz_if_ne (tgt := 13) (pc := 8) dX8_tear_8 rfl (fun c_6 => ?_) (fun c_6 => ?_)
  · have hf := gz_gF hf c_6
    refine gz_aload_n (pc := 13) dX8_tear_13 rfl rfl ?_
    refine gz_gk hf (fun c_7 hf => ?_)
    refine gz_gb hf (fun r_8 er_8 hf => ?_)
    refine gz_getR (pc := 14) dX8_tear_14 fl_RX8_14 rfl (gz_shs c_7) er_8 ?_
    refine gz_iload_n (pc := 17) dX8_tear_17 rfl rfl ?_
    refine gz_gk hf (fun c_11 hf => ?_)
    refine gz_cVI (av := [.int x1]) (st := []) (pc := 18) dX8_tear_18 kl_RX8_122 rfl (gz_shs c_11) rfl rfl (Nat.le_of_ble_eq_true rfl) (by show d + 0 + 0 + 1 ≤ d + 1; omega) (sX7_has (d := d + 0) (gz_gc hf)) (fun y_10 h_9 hf => ?_)
    refine gz_if_ne (tgt := 33) (pc := 21) dX8_tear_21 rfl (fun c_12 => ?_) (fun c_12 => ?_)
    · have hf := gz_gF hf c_12
      refine gz_aload_n (pc := 33) dX8_tear_33 rfl rfl ?_
      refine gz_gk hf (fun c_13 hf => ?_)
      refine gz_gb hf (fun r_14 er_14 hf => ?_)
      refine gz_getR (pc := 34) dX8_tear_34 fl_RX8_14 rfl (gz_shs c_13) er_14 ?_
      refine gz_gk hf (fun c_15 hf => ?_)
      refine gz_gb hf (fun r_16 er_16 hf => ?_)
      refine gz_getR (pc := 37) dX8_tear_37 fl_RX8_129 rfl (gz_shs c_15) er_16 ?_
      refine gz_iload_n (pc := 40) dX8_tear_40 rfl rfl ?_
      refine gz_iconst (v := (-1 : Int32)) (pc := 41) dX8_tear_41 rfl ?_
      refine gz_gk hf (fun c_17 hf => ?_)
      refine gz_iast (pc := 42) dX8_tear_42 c_17 ?_
      refine gz_nmH (fun h_18 eh_18 => ?_)
      have hf := gz_gl eh_18 hf
      refine gz_iconst (v := (1 : Int32)) (pc := 43) dX8_tear_43 rfl ?_
      exact gz_irt (pc := 44) dX8_tear_44 rfl rfl hf
    · have hf := gz_gT hf c_12
      refine gz_aload_n (pc := 24) dX8_tear_24 rfl rfl ?_
      refine gz_gk hf (fun c_19 hf => ?_)
      refine gz_gb hf (fun r_20 er_20 hf => ?_)
      refine gz_getR (pc := 25) dX8_tear_25 fl_RX8_31 rfl (gz_shs c_19) er_20 ?_
      refine gz_iconst (v := (1 : Int32)) (pc := 28) dX8_tear_28 rfl ?_
      refine gz_gk hf (fun c_23 hf => ?_)
      refine gz_cVI (av := [.int (1 : Int32)]) (st := []) (pc := 29) dX8_tear_29 kl_RX8_125 rfl (gz_shs c_23) rfl rfl (Nat.le_of_ble_eq_true rfl) (by show d + 0 + 0 + 1 ≤ d + 1; omega) (sX0_answer (d := d + 0) (gz_gc hf)) (fun y_22 h_21 hf => ?_)
      exact gz_irt (pc := 32) dX8_tear_32 rfl rfl hf
  · have hf := gz_gT hf c_6
    refine gz_iconst (v := (-1 : Int32)) (pc := 11) dX8_tear_11 rfl ?_
    exact gz_irt (pc := 12) dX8_tear_12 rfl rfl hf
def fX8_tear (a0 : Nat) (x1 : Int32) (h : gz_H) : Option (Int32 × gz_H) := fX8_tear_0 a0 x1 h
theorem sX8_tear {G : gz_G} {d : Nat} {a0 : Nat} {x1 : Int32} {h : gz_H} {Q : Int32 → gz_H → Prop} (hf : gz_g (fX8_tear a0 x1 h) Q) : gz_Cl G mX8_tear (d + 1) 0 0 [.ref a0, .int x1] h (gz_qi Q) := gz_cl_of (lo := [.ref a0, .int x1]) (by decide) rfl rfl (Nat.le_of_ble_eq_true rfl) (sX8_tear_0 a0 x1 h hf)
theorem dX8_copy_0 : decode cX8_copy 0 = .ok (.aload_n 0, 1) := by decide +kernel
theorem dX8_copy_1 : decode cX8_copy 1 = .ok (.getfield 14, 3) := by decide +kernel
theorem dX8_copy_4 : decode cX8_copy 4 = .ok (.iload_n 1, 1) := by decide +kernel
theorem dX8_copy_5 : decode cX8_copy 5 = .ok (.invokevirtual 118, 3) := by decide +kernel
theorem dX8_copy_8 : decode cX8_copy 8 = .ok (.ifCond .eq 14, 3) := by decide +kernel
theorem dX8_copy_11 : decode cX8_copy 11 = .ok (.aload_n 0, 1) := by decide +kernel
theorem dX8_copy_12 : decode cX8_copy 12 = .ok (.getfield 14, 3) := by decide +kernel
theorem dX8_copy_15 : decode cX8_copy 15 = .ok (.iload_n 3, 1) := by decide +kernel
theorem dX8_copy_16 : decode cX8_copy 16 = .ok (.invokevirtual 118, 3) := by decide +kernel
theorem dX8_copy_19 : decode cX8_copy 19 = .ok (.ifCond .ne 5, 3) := by decide +kernel
theorem dX8_copy_22 : decode cX8_copy 22 = .ok (.iconst (-1), 1) := by decide +kernel
theorem dX8_copy_23 : decode cX8_copy 23 = .ok (.ireturn, 1) := by decide +kernel
theorem dX8_copy_24 : decode cX8_copy 24 = .ok (.iload 5, 2) := by decide +kernel
theorem dX8_copy_26 : decode cX8_copy 26 = .ok (.ifCond .ge 12, 3) := by decide +kernel
theorem dX8_copy_29 : decode cX8_copy 29 = .ok (.aload_n 0, 1) := by decide +kernel
theorem dX8_copy_30 : decode cX8_copy 30 = .ok (.getfield 31, 3) := by decide +kernel
theorem dX8_copy_33 : decode cX8_copy 33 = .ok (.iconst 5, 1) := by decide +kernel
theorem dX8_copy_34 : decode cX8_copy 34 = .ok (.invokevirtual 125, 3) := by decide +kernel
theorem dX8_copy_37 : decode cX8_copy 37 = .ok (.ireturn, 1) := by decide +kernel
theorem dX8_copy_38 : decode cX8_copy 38 = .ok (.aload_n 0, 1) := by decide +kernel
theorem dX8_copy_39 : decode cX8_copy 39 = .ok (.getfield 14, 3) := by decide +kernel
theorem dX8_copy_42 : decode cX8_copy 42 = .ok (.iload_n 1, 1) := by decide +kernel
theorem dX8_copy_43 : decode cX8_copy 43 = .ok (.invokevirtual 122, 3) := by decide +kernel
theorem dX8_copy_46 : decode cX8_copy 46 = .ok (.ifCond .eq 14, 3) := by decide +kernel
theorem dX8_copy_49 : decode cX8_copy 49 = .ok (.aload_n 0, 1) := by decide +kernel
theorem dX8_copy_50 : decode cX8_copy 50 = .ok (.getfield 14, 3) := by decide +kernel
theorem dX8_copy_53 : decode cX8_copy 53 = .ok (.iload_n 3, 1) := by decide +kernel
theorem dX8_copy_54 : decode cX8_copy 54 = .ok (.invokevirtual 122, 3) := by decide +kernel
theorem dX8_copy_57 : decode cX8_copy 57 = .ok (.ifCond .ne 12, 3) := by decide +kernel
theorem dX8_copy_60 : decode cX8_copy 60 = .ok (.aload_n 0, 1) := by decide +kernel
theorem dX8_copy_61 : decode cX8_copy 61 = .ok (.getfield 31, 3) := by decide +kernel
theorem dX8_copy_64 : decode cX8_copy 64 = .ok (.iconst 1, 1) := by decide +kernel
theorem dX8_copy_65 : decode cX8_copy 65 = .ok (.invokevirtual 125, 3) := by decide +kernel
theorem dX8_copy_68 : decode cX8_copy 68 = .ok (.ireturn, 1) := by decide +kernel
theorem dX8_copy_69 : decode cX8_copy 69 = .ok (.aload_n 0, 1) := by decide +kernel
theorem dX8_copy_70 : decode cX8_copy 70 = .ok (.getfield 14, 3) := by decide +kernel
theorem dX8_copy_73 : decode cX8_copy 73 = .ok (.iload_n 1, 1) := by decide +kernel
theorem dX8_copy_74 : decode cX8_copy 74 = .ok (.iload_n 2, 1) := by decide +kernel
theorem dX8_copy_75 : decode cX8_copy 75 = .ok (.iload 5, 2) := by decide +kernel
theorem dX8_copy_77 : decode cX8_copy 77 = .ok (.invokevirtual 132, 3) := by decide +kernel
theorem dX8_copy_80 : decode cX8_copy 80 = .ok (.ifCond .eq 18, 3) := by decide +kernel
theorem dX8_copy_83 : decode cX8_copy 83 = .ok (.aload_n 0, 1) := by decide +kernel
theorem dX8_copy_84 : decode cX8_copy 84 = .ok (.getfield 14, 3) := by decide +kernel
theorem dX8_copy_87 : decode cX8_copy 87 = .ok (.iload_n 3, 1) := by decide +kernel
theorem dX8_copy_88 : decode cX8_copy 88 = .ok (.iload 4, 2) := by decide +kernel
theorem dX8_copy_90 : decode cX8_copy 90 = .ok (.iload 5, 2) := by decide +kernel
theorem dX8_copy_92 : decode cX8_copy 92 = .ok (.invokevirtual 132, 3) := by decide +kernel
theorem dX8_copy_95 : decode cX8_copy 95 = .ok (.ifCond .ne 12, 3) := by decide +kernel
theorem dX8_copy_98 : decode cX8_copy 98 = .ok (.aload_n 0, 1) := by decide +kernel
theorem dX8_copy_99 : decode cX8_copy 99 = .ok (.getfield 31, 3) := by decide +kernel
theorem dX8_copy_102 : decode cX8_copy 102 = .ok (.iconst 2, 1) := by decide +kernel
theorem dX8_copy_103 : decode cX8_copy 103 = .ok (.invokevirtual 125, 3) := by decide +kernel
theorem dX8_copy_106 : decode cX8_copy 106 = .ok (.ireturn, 1) := by decide +kernel
theorem dX8_copy_107 : decode cX8_copy 107 = .ok (.aload_n 0, 1) := by decide +kernel
theorem dX8_copy_108 : decode cX8_copy 108 = .ok (.getfield 14, 3) := by decide +kernel
theorem dX8_copy_111 : decode cX8_copy 111 = .ok (.getfield 111, 3) := by decide +kernel
theorem dX8_copy_114 : decode cX8_copy 114 = .ok (.iload_n 1, 1) := by decide +kernel
theorem dX8_copy_115 : decode cX8_copy 115 = .ok (.aaload, 1) := by decide +kernel
theorem dX8_copy_116 : decode cX8_copy 116 = .ok (.iload_n 2, 1) := by decide +kernel
theorem dX8_copy_117 : decode cX8_copy 117 = .ok (.aload_n 0, 1) := by decide +kernel
theorem dX8_copy_118 : decode cX8_copy 118 = .ok (.getfield 14, 3) := by decide +kernel
theorem dX8_copy_121 : decode cX8_copy 121 = .ok (.getfield 111, 3) := by decide +kernel
theorem dX8_copy_124 : decode cX8_copy 124 = .ok (.iload_n 3, 1) := by decide +kernel
theorem dX8_copy_125 : decode cX8_copy 125 = .ok (.aaload, 1) := by decide +kernel
theorem dX8_copy_126 : decode cX8_copy 126 = .ok (.iload 4, 2) := by decide +kernel
theorem dX8_copy_128 : decode cX8_copy 128 = .ok (.iload 5, 2) := by decide +kernel
theorem dX8_copy_130 : decode cX8_copy 130 = .ok (.invokestatic 136, 3) := by decide +kernel
theorem dX8_copy_133 : decode cX8_copy 133 = .ok (.iconst 1, 1) := by decide +kernel
theorem dX8_copy_134 : decode cX8_copy 134 = .ok (.ireturn, 1) := by decide +kernel
def fX8_copy_60  (a0 : Nat) (h : gz_H) : Option (Int32 × gz_H) :=
    gz_ck (gz_sh h a0 8 19) <|
    gz_br (h.2.2.2 a0 3) fun r_2 =>
    gz_ck (gz_sh h r_2 0 2) <|
    gz_b2 (fX0_answer r_2 (1 : Int32) h) fun y_4 h_3 =>
    some (y_4, h_3)
set_option maxRecDepth 100000 in
set_option maxHeartbeats 1000000 in
theorem sX8_copy_60 {G : gz_G} {d l0 s0 : Nat} {Q : Int32 → gz_H → Prop} (a0 : Nat) (h : gz_H) (hf : gz_g (fX8_copy_60  a0 h) Q) : gz_Ok G mX8_copy (d + 1, l0, s0, 0, 0) 60 [.ref a0, .retAddr 0, .retAddr 0, .retAddr 0, .retAddr 0, .retAddr 0] [] h (gz_qi Q) := by
  unfold fX8_copy_60 at hf
  refine gz_aload_n (pc := 60) dX8_copy_60 rfl rfl ?_
  refine gz_gk hf (fun c_1 hf => ?_)
  refine gz_gb hf (fun r_2 er_2 hf => ?_)
  refine gz_getR (pc := 61) dX8_copy_61 fl_RX8_31 rfl (gz_shs c_1) er_2 ?_
  refine gz_iconst (v := (1 : Int32)) (pc := 64) dX8_copy_64 rfl ?_
  refine gz_gk hf (fun c_5 hf => ?_)
  refine gz_cVI (av := [.int (1 : Int32)]) (st := []) (pc := 65) dX8_copy_65 kl_RX8_125 rfl (gz_shs c_5) rfl rfl (Nat.le_of_ble_eq_true rfl) (by show d + 0 + 0 + 1 ≤ d + 1; omega) (sX0_answer (d := d + 0) (gz_gc hf)) (fun y_4 h_3 hf => ?_)
  exact gz_irt (pc := 68) dX8_copy_68 rfl rfl hf
def fX8_copy_98  (a0 : Nat) (h : gz_H) : Option (Int32 × gz_H) :=
    gz_ck (gz_sh h a0 8 19) <|
    gz_br (h.2.2.2 a0 3) fun r_2 =>
    gz_ck (gz_sh h r_2 0 2) <|
    gz_b2 (fX0_answer r_2 (2 : Int32) h) fun y_4 h_3 =>
    some (y_4, h_3)
set_option maxRecDepth 100000 in
set_option maxHeartbeats 1000000 in
theorem sX8_copy_98 {G : gz_G} {d l0 s0 : Nat} {Q : Int32 → gz_H → Prop} (a0 : Nat) (h : gz_H) (hf : gz_g (fX8_copy_98  a0 h) Q) : gz_Ok G mX8_copy (d + 1, l0, s0, 0, 0) 98 [.ref a0, .retAddr 0, .retAddr 0, .retAddr 0, .retAddr 0, .retAddr 0] [] h (gz_qi Q) := by
  unfold fX8_copy_98 at hf
  refine gz_aload_n (pc := 98) dX8_copy_98 rfl rfl ?_
  refine gz_gk hf (fun c_1 hf => ?_)
  refine gz_gb hf (fun r_2 er_2 hf => ?_)
  refine gz_getR (pc := 99) dX8_copy_99 fl_RX8_31 rfl (gz_shs c_1) er_2 ?_
  refine gz_iconst (v := (2 : Int32)) (pc := 102) dX8_copy_102 rfl ?_
  refine gz_gk hf (fun c_5 hf => ?_)
  refine gz_cVI (av := [.int (2 : Int32)]) (st := []) (pc := 103) dX8_copy_103 kl_RX8_125 rfl (gz_shs c_5) rfl rfl (Nat.le_of_ble_eq_true rfl) (by show d + 0 + 0 + 1 ≤ d + 1; omega) (sX0_answer (d := d + 0) (gz_gc hf)) (fun y_4 h_3 hf => ?_)
  exact gz_irt (pc := 106) dX8_copy_106 rfl rfl hf
def fX8_copy_0  (a0 : Nat) (x1 : Int32) (x2 : Int32) (x3 : Int32) (x4 : Int32) (x5 : Int32) (h : gz_H) : Option (Int32 × gz_H) :=
    gz_ck (gz_sh h a0 8 19) <|
    gz_br (h.2.2.2 a0 0) fun r_2 =>
    gz_ck (gz_sh h r_2 7 3) <|
    gz_b2 (fX7_knows r_2 x1 h) fun y_4 h_3 =>
    if y_4 = 0 then (
     some ((-1 : Int32), h_3)
    ) else (
     gz_ck (gz_sh h_3 a0 8 19) <|
     gz_br (h_3.2.2.2 a0 0) fun r_8 =>
     gz_ck (gz_sh h_3 r_8 7 3) <|
     gz_b2 (fX7_knows r_8 x3 h_3) fun y_10 h_9 =>
     if y_10 = 0 then (
      some ((-1 : Int32), h_9)
     ) else (
      if 0 ≤ x5 then (
       gz_ck (gz_sh h_9 a0 8 19) <|
       gz_br (h_9.2.2.2 a0 0) fun r_15 =>
       gz_ck (gz_sh h_9 r_15 7 3) <|
       gz_b2 (fX7_has r_15 x1 h_9) fun y_17 h_16 =>
       if y_17 = 0 then (
        fX8_copy_60 a0 h_16
       ) else (
        gz_ck (gz_sh h_16 a0 8 19) <|
        gz_br (h_16.2.2.2 a0 0) fun r_21 =>
        gz_ck (gz_sh h_16 r_21 7 3) <|
        gz_b2 (fX7_has r_21 x3 h_16) fun y_23 h_22 =>
        if y_23 = 0 then (
         fX8_copy_60 a0 h_22
        ) else (
         gz_ck (gz_sh h_22 a0 8 19) <|
         gz_br (h_22.2.2.2 a0 0) fun r_27 =>
         gz_ck (gz_sh h_22 r_27 7 3) <|
         gz_b2 (fX7_hasStretch r_27 x1 x2 x5 h_22) fun y_29 h_28 =>
         if y_29 = 0 then (
          fX8_copy_98 a0 h_28
         ) else (
          gz_ck (gz_sh h_28 a0 8 19) <|
          gz_br (h_28.2.2.2 a0 0) fun r_33 =>
          gz_ck (gz_sh h_28 r_33 7 3) <|
          gz_b2 (fX7_hasStretch r_33 x3 x4 x5 h_28) fun y_35 h_34 =>
          if y_35 = 0 then (
           fX8_copy_98 a0 h_34
          ) else (
           gz_ck (gz_sh h_34 a0 8 19) <|
           gz_br (h_34.2.2.2 a0 0) fun r_39 =>
           gz_ck (gz_sh h_34 r_39 7 3) <|
           gz_br (h_34.2.2.2 r_39 1) fun r_41 =>
           gz_ck (gz_inb h_34 r_41 13 x1) <|
           gz_br (h_34.2.2.2 r_41 x1.toNatClampNeg) fun r_43 =>
           gz_ck (gz_inb h_34 r_41 13 x3) <|
           gz_br (h_34.2.2.2 r_41 x3.toNatClampNeg) fun r_45 =>
           gz_ck (gz_cpOk h_34 r_43 r_45 x2 x4 x5) <|
           gz_lt (gz_cp h_34 r_43 r_45 x2 x4 x5) fun h_47 =>
           some ((1 : Int32), h_47)
          )
         )
        )
       )
      ) else (
       gz_ck (gz_sh h_9 a0 8 19) <|
       gz_br (h_9.2.2.2 a0 3) fun r_49 =>
       gz_ck (gz_sh h_9 r_49 0 2) <|
       gz_b2 (fX0_answer r_49 (5 : Int32) h_9) fun y_51 h_50 =>
       some (y_51, h_50)
      )
     )
    )
set_option maxRecDepth 100000 in
set_option maxHeartbeats 1000000 in
theorem sX8_copy_0 {G : gz_G} {d l0 s0 : Nat} {Q : Int32 → gz_H → Prop} (a0 : Nat) (x1 : Int32) (x2 : Int32) (x3 : Int32) (x4 : Int32) (x5 : Int32) (h : gz_H) (hf : gz_g (fX8_copy_0  a0 x1 x2 x3 x4 x5 h) Q) : gz_Ok G mX8_copy (d + 1, l0, s0, 0, 0) 0 [.ref a0, .int x1, .int x2, .int x3, .int x4, .int x5] [] h (gz_qi Q) := by
  unfold fX8_copy_0 at hf
  refine gz_aload_n (pc := 0) dX8_copy_0 rfl rfl ?_
  refine gz_gk hf (fun c_1 hf => ?_)
  refine gz_gb hf (fun r_2 er_2 hf => ?_)
  refine gz_getR (pc := 1) dX8_copy_1 fl_RX8_14 rfl (gz_shs c_1) er_2 ?_
  refine gz_iload_n (pc := 4) dX8_copy_4 rfl rfl ?_
  refine gz_gk hf (fun c_5 hf => ?_)
  refine gz_cVI (av := [.int x1]) (st := []) (pc := 5) dX8_copy_5 kl_RX8_118 rfl (gz_shs c_5) rfl rfl (Nat.le_of_ble_eq_true rfl) (by show d + 0 + 0 + 1 ≤ d + 1; omega) (sX7_knows (d := d + 0) (gz_gc hf)) (fun y_4 h_3 hf => ?_)
  refine gz_if_eq (tgt := 22) (pc := 8) dX8_copy_8 rfl (fun c_6 => ?_) (fun c_6 => ?_)
  · have hf := gz_gT hf c_6
    refine gz_iconst (v := (-1 : Int32)) (pc := 22) dX8_copy_22 rfl ?_
    exact gz_irt (pc := 23) dX8_copy_23 rfl rfl hf
  · have hf := gz_gF hf c_6
    refine gz_aload_n (pc := 11) dX8_copy_11 rfl rfl ?_
    refine gz_gk hf (fun c_7 hf => ?_)
    refine gz_gb hf (fun r_8 er_8 hf => ?_)
    refine gz_getR (pc := 12) dX8_copy_12 fl_RX8_14 rfl (gz_shs c_7) er_8 ?_
    refine gz_iload_n (pc := 15) dX8_copy_15 rfl rfl ?_
    refine gz_gk hf (fun c_11 hf => ?_)
    refine gz_cVI (av := [.int x3]) (st := []) (pc := 16) dX8_copy_16 kl_RX8_118 rfl (gz_shs c_11) rfl rfl (Nat.le_of_ble_eq_true rfl) (by show d + 0 + 0 + 1 ≤ d + 1; omega) (sX7_knows (d := d + 0) (gz_gc hf)) (fun y_10 h_9 hf => ?_)
    refine gz_if_ne (tgt := 24) (pc := 19) dX8_copy_19 rfl (fun c_12 => ?_) (fun c_12 => ?_)
    · have hf := gz_gF hf c_12
      refine gz_iload (pc := 24) dX8_copy_24 rfl ?_
      refine gz_if_ge (tgt := 38) (pc := 26) dX8_copy_26 rfl (fun c_13 => ?_) (fun c_13 => ?_)
      · have hf := gz_gT hf c_13
        refine gz_aload_n (pc := 38) dX8_copy_38 rfl rfl ?_
        refine gz_gk hf (fun c_14 hf => ?_)
        refine gz_gb hf (fun r_15 er_15 hf => ?_)
        refine gz_getR (pc := 39) dX8_copy_39 fl_RX8_14 rfl (gz_shs c_14) er_15 ?_
        refine gz_iload_n (pc := 42) dX8_copy_42 rfl rfl ?_
        refine gz_gk hf (fun c_18 hf => ?_)
        refine gz_cVI (av := [.int x1]) (st := []) (pc := 43) dX8_copy_43 kl_RX8_122 rfl (gz_shs c_18) rfl rfl (Nat.le_of_ble_eq_true rfl) (by show d + 0 + 0 + 1 ≤ d + 1; omega) (sX7_has (d := d + 0) (gz_gc hf)) (fun y_17 h_16 hf => ?_)
        refine gz_if_eq (tgt := 60) (pc := 46) dX8_copy_46 rfl (fun c_19 => ?_) (fun c_19 => ?_)
        · have hf := gz_gT hf c_19
          refine gz_fg (lv := [.ref a0, .retAddr 0, .retAddr 0, .retAddr 0, .retAddr 0, .retAddr 0]) ⟨Or.inr rfl, ⟨Or.inl rfl, ⟨Or.inl rfl, ⟨Or.inl rfl, ⟨Or.inl rfl, ⟨Or.inl rfl, trivial⟩⟩⟩⟩⟩⟩ ?_
          exact sX8_copy_60 a0 h_16 hf
        · have hf := gz_gF hf c_19
          refine gz_aload_n (pc := 49) dX8_copy_49 rfl rfl ?_
          refine gz_gk hf (fun c_20 hf => ?_)
          refine gz_gb hf (fun r_21 er_21 hf => ?_)
          refine gz_getR (pc := 50) dX8_copy_50 fl_RX8_14 rfl (gz_shs c_20) er_21 ?_
          refine gz_iload_n (pc := 53) dX8_copy_53 rfl rfl ?_
          refine gz_gk hf (fun c_24 hf => ?_)
          refine gz_cVI (av := [.int x3]) (st := []) (pc := 54) dX8_copy_54 kl_RX8_122 rfl (gz_shs c_24) rfl rfl (Nat.le_of_ble_eq_true rfl) (by show d + 0 + 0 + 1 ≤ d + 1; omega) (sX7_has (d := d + 0) (gz_gc hf)) (fun y_23 h_22 hf => ?_)
          refine gz_if_ne (tgt := 69) (pc := 57) dX8_copy_57 rfl (fun c_25 => ?_) (fun c_25 => ?_)
          · have hf := gz_gF hf c_25
            refine gz_aload_n (pc := 69) dX8_copy_69 rfl rfl ?_
            refine gz_gk hf (fun c_26 hf => ?_)
            refine gz_gb hf (fun r_27 er_27 hf => ?_)
            refine gz_getR (pc := 70) dX8_copy_70 fl_RX8_14 rfl (gz_shs c_26) er_27 ?_
            refine gz_iload_n (pc := 73) dX8_copy_73 rfl rfl ?_
            refine gz_iload_n (pc := 74) dX8_copy_74 rfl rfl ?_
            refine gz_iload (pc := 75) dX8_copy_75 rfl ?_
            refine gz_gk hf (fun c_30 hf => ?_)
            refine gz_cVI (av := [.int x1, .int x2, .int x5]) (st := []) (pc := 77) dX8_copy_77 kl_RX8_132 rfl (gz_shs c_30) rfl rfl (Nat.le_of_ble_eq_true rfl) (by show d + 0 + 0 + 1 ≤ d + 1; omega) (sX7_hasStretch (d := d + 0) (gz_gc hf)) (fun y_29 h_28 hf => ?_)
            refine gz_if_eq (tgt := 98) (pc := 80) dX8_copy_80 rfl (fun c_31 => ?_) (fun c_31 => ?_)
            · have hf := gz_gT hf c_31
              refine gz_fg (lv := [.ref a0, .retAddr 0, .retAddr 0, .retAddr 0, .retAddr 0, .retAddr 0]) ⟨Or.inr rfl, ⟨Or.inl rfl, ⟨Or.inl rfl, ⟨Or.inl rfl, ⟨Or.inl rfl, ⟨Or.inl rfl, trivial⟩⟩⟩⟩⟩⟩ ?_
              exact sX8_copy_98 a0 h_28 hf
            · have hf := gz_gF hf c_31
              refine gz_aload_n (pc := 83) dX8_copy_83 rfl rfl ?_
              refine gz_gk hf (fun c_32 hf => ?_)
              refine gz_gb hf (fun r_33 er_33 hf => ?_)
              refine gz_getR (pc := 84) dX8_copy_84 fl_RX8_14 rfl (gz_shs c_32) er_33 ?_
              refine gz_iload_n (pc := 87) dX8_copy_87 rfl rfl ?_
              refine gz_iload (pc := 88) dX8_copy_88 rfl ?_
              refine gz_iload (pc := 90) dX8_copy_90 rfl ?_
              refine gz_gk hf (fun c_36 hf => ?_)
              refine gz_cVI (av := [.int x3, .int x4, .int x5]) (st := []) (pc := 92) dX8_copy_92 kl_RX8_132 rfl (gz_shs c_36) rfl rfl (Nat.le_of_ble_eq_true rfl) (by show d + 0 + 0 + 1 ≤ d + 1; omega) (sX7_hasStretch (d := d + 0) (gz_gc hf)) (fun y_35 h_34 hf => ?_)
              refine gz_if_ne (tgt := 107) (pc := 95) dX8_copy_95 rfl (fun c_37 => ?_) (fun c_37 => ?_)
              · have hf := gz_gF hf c_37
                refine gz_aload_n (pc := 107) dX8_copy_107 rfl rfl ?_
                refine gz_gk hf (fun c_38 hf => ?_)
                refine gz_gb hf (fun r_39 er_39 hf => ?_)
                refine gz_getR (pc := 108) dX8_copy_108 fl_RX8_14 rfl (gz_shs c_38) er_39 ?_
                refine gz_gk hf (fun c_40 hf => ?_)
                refine gz_gb hf (fun r_41 er_41 hf => ?_)
                refine gz_getR (pc := 111) dX8_copy_111 fl_RX8_111 rfl (gz_shs c_40) er_41 ?_
                refine gz_iload_n (pc := 114) dX8_copy_114 rfl rfl ?_
                refine gz_gk hf (fun c_42 hf => ?_)
                refine gz_gb hf (fun r_43 er_43 hf => ?_)
                refine gz_aald (Or.inr (Or.inr rfl)) (pc := 115) dX8_copy_115 c_42 er_43 ?_
                refine gz_iload_n (pc := 116) dX8_copy_116 rfl rfl ?_
                refine gz_aload_n (pc := 117) dX8_copy_117 rfl rfl ?_
                refine gz_getR (pc := 118) dX8_copy_118 fl_RX8_14 rfl (gz_shs c_38) er_39 ?_
                refine gz_getR (pc := 121) dX8_copy_121 fl_RX8_111 rfl (gz_shs c_40) er_41 ?_
                refine gz_iload_n (pc := 124) dX8_copy_124 rfl rfl ?_
                refine gz_gk hf (fun c_44 hf => ?_)
                refine gz_gb hf (fun r_45 er_45 hf => ?_)
                refine gz_aald (Or.inr (Or.inr rfl)) (pc := 125) dX8_copy_125 c_44 er_45 ?_
                refine gz_iload (pc := 126) dX8_copy_126 rfl ?_
                refine gz_iload (pc := 128) dX8_copy_128 rfl ?_
                refine gz_gk hf (fun c_46 hf => ?_)
                refine gz_copy (pc := 130) dX8_copy_130 kcp_RX8_136 (by show 1 ≤ d + 1; omega) (Nat.le_of_ble_eq_true rfl) c_46 ?_
                refine gz_nmH (fun h_47 eh_47 => ?_)
                have hf := gz_gl eh_47 hf
                refine gz_iconst (v := (1 : Int32)) (pc := 133) dX8_copy_133 rfl ?_
                exact gz_irt (pc := 134) dX8_copy_134 rfl rfl hf
              · have hf := gz_gT hf c_37
                refine gz_fg (lv := [.ref a0, .retAddr 0, .retAddr 0, .retAddr 0, .retAddr 0, .retAddr 0]) ⟨Or.inr rfl, ⟨Or.inl rfl, ⟨Or.inl rfl, ⟨Or.inl rfl, ⟨Or.inl rfl, ⟨Or.inl rfl, trivial⟩⟩⟩⟩⟩⟩ ?_
                exact sX8_copy_98 a0 h_34 hf
          · have hf := gz_gT hf c_25
            refine gz_fg (lv := [.ref a0, .retAddr 0, .retAddr 0, .retAddr 0, .retAddr 0, .retAddr 0]) ⟨Or.inr rfl, ⟨Or.inl rfl, ⟨Or.inl rfl, ⟨Or.inl rfl, ⟨Or.inl rfl, ⟨Or.inl rfl, trivial⟩⟩⟩⟩⟩⟩ ?_
            exact sX8_copy_60 a0 h_22 hf
      · have hf := gz_gF hf c_13
        refine gz_aload_n (pc := 29) dX8_copy_29 rfl rfl ?_
        refine gz_gk hf (fun c_48 hf => ?_)
        refine gz_gb hf (fun r_49 er_49 hf => ?_)
        refine gz_getR (pc := 30) dX8_copy_30 fl_RX8_31 rfl (gz_shs c_48) er_49 ?_
        refine gz_iconst (v := (5 : Int32)) (pc := 33) dX8_copy_33 rfl ?_
        refine gz_gk hf (fun c_52 hf => ?_)
        refine gz_cVI (av := [.int (5 : Int32)]) (st := []) (pc := 34) dX8_copy_34 kl_RX8_125 rfl (gz_shs c_52) rfl rfl (Nat.le_of_ble_eq_true rfl) (by show d + 0 + 0 + 1 ≤ d + 1; omega) (sX0_answer (d := d + 0) (gz_gc hf)) (fun y_51 h_50 hf => ?_)
        exact gz_irt (pc := 37) dX8_copy_37 rfl rfl hf
    · have hf := gz_gT hf c_12
      refine gz_iconst (v := (-1 : Int32)) (pc := 22) dX8_copy_22 rfl ?_
      exact gz_irt (pc := 23) dX8_copy_23 rfl rfl hf
def fX8_copy (a0 : Nat) (x1 : Int32) (x2 : Int32) (x3 : Int32) (x4 : Int32) (x5 : Int32) (h : gz_H) : Option (Int32 × gz_H) := fX8_copy_0 a0 x1 x2 x3 x4 x5 h
theorem sX8_copy {G : gz_G} {d : Nat} {a0 : Nat} {x1 : Int32} {x2 : Int32} {x3 : Int32} {x4 : Int32} {x5 : Int32} {h : gz_H} {Q : Int32 → gz_H → Prop} (hf : gz_g (fX8_copy a0 x1 x2 x3 x4 x5 h) Q) : gz_Cl G mX8_copy (d + 1) 0 0 [.ref a0, .int x1, .int x2, .int x3, .int x4, .int x5] h (gz_qi Q) := gz_cl_of (lo := [.ref a0, .int x1, .int x2, .int x3, .int x4, .int x5]) (by decide) rfl rfl (Nat.le_of_ble_eq_true rfl) (sX8_copy_0 a0 x1 x2 x3 x4 x5 h hf)
theorem dX8_mean_0 : decode cX8_mean 0 = .ok (.aload_n 0, 1) := by decide +kernel
theorem dX8_mean_1 : decode cX8_mean 1 = .ok (.getfield 14, 3) := by decide +kernel
theorem dX8_mean_4 : decode cX8_mean 4 = .ok (.iload_n 1, 1) := by decide +kernel
theorem dX8_mean_5 : decode cX8_mean 5 = .ok (.invokevirtual 118, 3) := by decide +kernel
theorem dX8_mean_8 : decode cX8_mean 8 = .ok (.ifCond .ne 5, 3) := by decide +kernel
theorem dX8_mean_11 : decode cX8_mean 11 = .ok (.iconst (-1), 1) := by decide +kernel
theorem dX8_mean_12 : decode cX8_mean 12 = .ok (.ireturn, 1) := by decide +kernel
theorem dX8_mean_13 : decode cX8_mean 13 = .ok (.aload_n 0, 1) := by decide +kernel
theorem dX8_mean_14 : decode cX8_mean 14 = .ok (.getfield 14, 3) := by decide +kernel
theorem dX8_mean_17 : decode cX8_mean 17 = .ok (.iload_n 1, 1) := by decide +kernel
theorem dX8_mean_18 : decode cX8_mean 18 = .ok (.invokevirtual 122, 3) := by decide +kernel
theorem dX8_mean_21 : decode cX8_mean 21 = .ok (.ifCond .ne 12, 3) := by decide +kernel
theorem dX8_mean_24 : decode cX8_mean 24 = .ok (.aload_n 0, 1) := by decide +kernel
theorem dX8_mean_25 : decode cX8_mean 25 = .ok (.getfield 31, 3) := by decide +kernel
theorem dX8_mean_28 : decode cX8_mean 28 = .ok (.iconst 1, 1) := by decide +kernel
theorem dX8_mean_29 : decode cX8_mean 29 = .ok (.invokevirtual 125, 3) := by decide +kernel
theorem dX8_mean_32 : decode cX8_mean 32 = .ok (.ireturn, 1) := by decide +kernel
theorem dX8_mean_33 : decode cX8_mean 33 = .ok (.aload_n 0, 1) := by decide +kernel
theorem dX8_mean_34 : decode cX8_mean 34 = .ok (.getfield 14, 3) := by decide +kernel
theorem dX8_mean_37 : decode cX8_mean 37 = .ok (.getfield 129, 3) := by decide +kernel
theorem dX8_mean_40 : decode cX8_mean 40 = .ok (.iload_n 1, 1) := by decide +kernel
theorem dX8_mean_41 : decode cX8_mean 41 = .ok (.iaload, 1) := by decide +kernel
theorem dX8_mean_42 : decode cX8_mean 42 = .ok (.istore_n 2, 1) := by decide +kernel
theorem dX8_mean_43 : decode cX8_mean 43 = .ok (.iload_n 2, 1) := by decide +kernel
theorem dX8_mean_44 : decode cX8_mean 44 = .ok (.ifCond .ne 12, 3) := by decide +kernel
theorem dX8_mean_47 : decode cX8_mean 47 = .ok (.aload_n 0, 1) := by decide +kernel
theorem dX8_mean_48 : decode cX8_mean 48 = .ok (.getfield 31, 3) := by decide +kernel
theorem dX8_mean_51 : decode cX8_mean 51 = .ok (.iconst 4, 1) := by decide +kernel
theorem dX8_mean_52 : decode cX8_mean 52 = .ok (.invokevirtual 125, 3) := by decide +kernel
theorem dX8_mean_55 : decode cX8_mean 55 = .ok (.ireturn, 1) := by decide +kernel
theorem dX8_mean_56 : decode cX8_mean 56 = .ok (.lconst 0, 1) := by decide +kernel
theorem dX8_mean_57 : decode cX8_mean 57 = .ok (.lstore_n 3, 1) := by decide +kernel
theorem dX8_mean_58 : decode cX8_mean 58 = .ok (.iconst 0, 1) := by decide +kernel
theorem dX8_mean_59 : decode cX8_mean 59 = .ok (.istore 5, 2) := by decide +kernel
theorem dX8_mean_61 : decode cX8_mean 61 = .ok (.iload 5, 2) := by decide +kernel
theorem dX8_mean_63 : decode cX8_mean 63 = .ok (.iload_n 2, 1) := by decide +kernel
theorem dX8_mean_64 : decode cX8_mean 64 = .ok (.if_icmp .ge 25, 3) := by decide +kernel
theorem dX8_mean_67 : decode cX8_mean 67 = .ok (.lload_n 3, 1) := by decide +kernel
theorem dX8_mean_68 : decode cX8_mean 68 = .ok (.aload_n 0, 1) := by decide +kernel
theorem dX8_mean_69 : decode cX8_mean 69 = .ok (.getfield 14, 3) := by decide +kernel
theorem dX8_mean_72 : decode cX8_mean 72 = .ok (.getfield 111, 3) := by decide +kernel
theorem dX8_mean_75 : decode cX8_mean 75 = .ok (.iload_n 1, 1) := by decide +kernel
theorem dX8_mean_76 : decode cX8_mean 76 = .ok (.aaload, 1) := by decide +kernel
theorem dX8_mean_77 : decode cX8_mean 77 = .ok (.iload 5, 2) := by decide +kernel
theorem dX8_mean_79 : decode cX8_mean 79 = .ok (.iaload, 1) := by decide +kernel
theorem dX8_mean_80 : decode cX8_mean 80 = .ok (.i2l, 1) := by decide +kernel
theorem dX8_mean_81 : decode cX8_mean 81 = .ok (.ladd, 1) := by decide +kernel
theorem dX8_mean_82 : decode cX8_mean 82 = .ok (.lstore_n 3, 1) := by decide +kernel
theorem dX8_mean_83 : decode cX8_mean 83 = .ok (.iinc 5 1, 3) := by decide +kernel
theorem dX8_mean_86 : decode cX8_mean 86 = .ok (.goto (-25), 3) := by decide +kernel
theorem dX8_mean_89 : decode cX8_mean 89 = .ok (.aload_n 0, 1) := by decide +kernel
theorem dX8_mean_90 : decode cX8_mean 90 = .ok (.lload_n 3, 1) := by decide +kernel
theorem dX8_mean_91 : decode cX8_mean 91 = .ok (.iload_n 2, 1) := by decide +kernel
theorem dX8_mean_92 : decode cX8_mean 92 = .ok (.i2l, 1) := by decide +kernel
theorem dX8_mean_93 : decode cX8_mean 93 = .ok (.ldiv, 1) := by decide +kernel
theorem dX8_mean_94 : decode cX8_mean 94 = .ok (.l2i, 1) := by decide +kernel
theorem dX8_mean_95 : decode cX8_mean 95 = .ok (.putfield 115, 3) := by decide +kernel
theorem dX8_mean_98 : decode cX8_mean 98 = .ok (.iconst 1, 1) := by decide +kernel
theorem dX8_mean_99 : decode cX8_mean 99 = .ok (.ireturn, 1) := by decide +kernel
def fX8_mean_61  : Nat → Nat → Int32 → Int32 → Int64 → Int32 → gz_H → Option (Int32 × gz_H)
  | 0, _, _, _, _, _, _ => none
  | n + 1, a0, x1, x2, x3, x5, h =>
    if x2 ≤ x5 then (
     gz_ck (gz_nzL x2.toInt64) <|
     gz_ck (gz_sh h a0 8 19) <|
     gz_lt (uI h a0 18 ((x3 / x2.toInt64).toInt32)) fun h_4 =>
     some ((1 : Int32), h_4)
    ) else (
     gz_ck (gz_sh h a0 8 19) <|
     gz_br (h.2.2.2 a0 0) fun r_6 =>
     gz_ck (gz_sh h r_6 7 3) <|
     gz_br (h.2.2.2 r_6 1) fun r_8 =>
     gz_ck (gz_inb h r_8 13 x1) <|
     gz_br (h.2.2.2 r_8 x1.toNatClampNeg) fun r_10 =>
     gz_ck (gz_inb h r_10 10 x5) <|
     fX8_mean_61 n a0 x1 x2 (x3 + ((h.2.1 r_10 x5.toNatClampNeg).toInt64)) (x5 + 1) h
    )
set_option maxRecDepth 100000 in
set_option maxHeartbeats 1000000 in
theorem sX8_mean_61 {G : gz_G} {d l0 s0 : Nat} {Q : Int32 → gz_H → Prop} : ∀ (n : Nat) (a0 : Nat) (x1 : Int32) (x2 : Int32) (x3 : Int64) (x5 : Int32) (h : gz_H), gz_g (fX8_mean_61  n a0 x1 x2 x3 x5 h) Q → gz_Ok G mX8_mean (d + 1, l0, s0, 0, 0) 61 [.ref a0, .int x1, .int x2, .long x3, .retAddr 0, .int x5] [] h (gz_qi Q) := by
  intro n
  induction n with
  | zero => intro a0 x1 x2 x3 x5 h hf; exact False.elim hf
  | succ n ih =>
    intro a0 x1 x2 x3 x5 h hf
    rw [fX8_mean_61] at hf
    refine gz_iload (pc := 61) dX8_mean_61 rfl ?_
    refine gz_iload_n (pc := 63) dX8_mean_63 rfl rfl ?_
    refine gz_icmp_ge (tgt := 89) (pc := 64) dX8_mean_64 rfl (fun c_1 => ?_) (fun c_1 => ?_)
    · have hf := gz_gT hf c_1
      refine gz_aload_n (pc := 89) dX8_mean_89 rfl rfl ?_
      refine gz_lload_n (pc := 90) dX8_mean_90 rfl rfl ?_
      refine gz_iload_n (pc := 91) dX8_mean_91 rfl rfl ?_
      refine gz_i2l (pc := 92) dX8_mean_92 ?_
      refine gz_gk hf (fun c_2 hf => ?_)
      refine gz_ldiv (pc := 93) dX8_mean_93 (gz_nzLs c_2) ?_
      refine gz_l2i (pc := 94) dX8_mean_94 ?_
      refine gz_gk hf (fun c_3 hf => ?_)
      refine gz_putI (pc := 95) dX8_mean_95 fw_X8_mean_115 rfl rfl rfl (gz_shs c_3) ?_
      refine gz_nmH (fun h_4 eh_4 => ?_)
      have hf := gz_gl eh_4 hf
      refine gz_iconst (v := (1 : Int32)) (pc := 98) dX8_mean_98 rfl ?_
      exact gz_irt (pc := 99) dX8_mean_99 rfl rfl hf
    · have hf := gz_gF hf c_1
      refine gz_lload_n (pc := 67) dX8_mean_67 rfl rfl ?_
      refine gz_aload_n (pc := 68) dX8_mean_68 rfl rfl ?_
      refine gz_gk hf (fun c_5 hf => ?_)
      refine gz_gb hf (fun r_6 er_6 hf => ?_)
      refine gz_getR (pc := 69) dX8_mean_69 fl_RX8_14 rfl (gz_shs c_5) er_6 ?_
      refine gz_gk hf (fun c_7 hf => ?_)
      refine gz_gb hf (fun r_8 er_8 hf => ?_)
      refine gz_getR (pc := 72) dX8_mean_72 fl_RX8_111 rfl (gz_shs c_7) er_8 ?_
      refine gz_iload_n (pc := 75) dX8_mean_75 rfl rfl ?_
      refine gz_gk hf (fun c_9 hf => ?_)
      refine gz_gb hf (fun r_10 er_10 hf => ?_)
      refine gz_aald (Or.inr (Or.inr rfl)) (pc := 76) dX8_mean_76 c_9 er_10 ?_
      refine gz_iload (pc := 77) dX8_mean_77 rfl ?_
      refine gz_gk hf (fun c_11 hf => ?_)
      refine gz_iald (pc := 79) dX8_mean_79 c_11 ?_
      refine gz_i2l (pc := 80) dX8_mean_80 ?_
      refine gz_ladd (pc := 81) dX8_mean_81 ?_
      refine gz_lstore_n (lv := [.ref a0, .int x1, .int x2, .long (x3 + ((h.2.1 r_10 x5.toNatClampNeg).toInt64)), .retAddr 0, .int x5]) (pc := 82) dX8_mean_82 rfl (by decide) rfl ?_
      refine gz_iinc (v := x5 + 1) (lv := [.ref a0, .int x1, .int x2, .long (x3 + ((h.2.1 r_10 x5.toNatClampNeg).toInt64)), .retAddr 0, .int (x5 + 1)]) (pc := 83) dX8_mean_83 rfl rfl (by decide) rfl ?_
      refine gz_goto (tgt := 61) (pc := 86) dX8_mean_86 rfl ?_
      exact ih a0 x1 x2 (x3 + ((h.2.1 r_10 x5.toNatClampNeg).toInt64)) (x5 + 1) h hf
def fX8_mean_0  (a0 : Nat) (x1 : Int32) (h : gz_H) : Option (Int32 × gz_H) :=
    gz_ck (gz_sh h a0 8 19) <|
    gz_br (h.2.2.2 a0 0) fun r_2 =>
    gz_ck (gz_sh h r_2 7 3) <|
    gz_b2 (fX7_knows r_2 x1 h) fun y_4 h_3 =>
    if y_4 = 0 then (
     some ((-1 : Int32), h_3)
    ) else (
     gz_ck (gz_sh h_3 a0 8 19) <|
     gz_br (h_3.2.2.2 a0 0) fun r_8 =>
     gz_ck (gz_sh h_3 r_8 7 3) <|
     gz_b2 (fX7_has r_8 x1 h_3) fun y_10 h_9 =>
     if y_10 = 0 then (
      gz_ck (gz_sh h_9 a0 8 19) <|
      gz_br (h_9.2.2.2 a0 3) fun r_24 =>
      gz_ck (gz_sh h_9 r_24 0 2) <|
      gz_b2 (fX0_answer r_24 (1 : Int32) h_9) fun y_26 h_25 =>
      some (y_26, h_25)
     ) else (
      gz_ck (gz_sh h_9 a0 8 19) <|
      gz_br (h_9.2.2.2 a0 0) fun r_14 =>
      gz_ck (gz_sh h_9 r_14 7 3) <|
      gz_br (h_9.2.2.2 r_14 2) fun r_16 =>
      gz_ck (gz_inb h_9 r_16 10 x1) <|
      if (h_9.2.1 r_16 x1.toNatClampNeg) = 0 then (
       gz_br (h_9.2.2.2 a0 3) fun r_19 =>
       gz_ck (gz_sh h_9 r_19 0 2) <|
       gz_b2 (fX0_answer r_19 (4 : Int32) h_9) fun y_21 h_20 =>
       some (y_21, h_20)
      ) else (
       fX8_mean_61 gz_fu a0 x1 (h_9.2.1 r_16 x1.toNatClampNeg) (0 : Int64) (0 : Int32) h_9
      )
     )
    )
set_option maxRecDepth 100000 in
set_option maxHeartbeats 1000000 in
theorem sX8_mean_0 {G : gz_G} {d l0 s0 : Nat} {Q : Int32 → gz_H → Prop} (a0 : Nat) (x1 : Int32) (h : gz_H) (hf : gz_g (fX8_mean_0  a0 x1 h) Q) : gz_Ok G mX8_mean (d + 1, l0, s0, 0, 0) 0 [.ref a0, .int x1, .retAddr 0, .retAddr 0, .retAddr 0, .retAddr 0] [] h (gz_qi Q) := by
  unfold fX8_mean_0 at hf
  refine gz_aload_n (pc := 0) dX8_mean_0 rfl rfl ?_
  refine gz_gk hf (fun c_1 hf => ?_)
  refine gz_gb hf (fun r_2 er_2 hf => ?_)
  refine gz_getR (pc := 1) dX8_mean_1 fl_RX8_14 rfl (gz_shs c_1) er_2 ?_
  refine gz_iload_n (pc := 4) dX8_mean_4 rfl rfl ?_
  refine gz_gk hf (fun c_5 hf => ?_)
  refine gz_cVI (av := [.int x1]) (st := []) (pc := 5) dX8_mean_5 kl_RX8_118 rfl (gz_shs c_5) rfl rfl (Nat.le_of_ble_eq_true rfl) (by show d + 0 + 0 + 1 ≤ d + 1; omega) (sX7_knows (d := d + 0) (gz_gc hf)) (fun y_4 h_3 hf => ?_)
  refine gz_if_ne (tgt := 13) (pc := 8) dX8_mean_8 rfl (fun c_6 => ?_) (fun c_6 => ?_)
  · have hf := gz_gF hf c_6
    refine gz_aload_n (pc := 13) dX8_mean_13 rfl rfl ?_
    refine gz_gk hf (fun c_7 hf => ?_)
    refine gz_gb hf (fun r_8 er_8 hf => ?_)
    refine gz_getR (pc := 14) dX8_mean_14 fl_RX8_14 rfl (gz_shs c_7) er_8 ?_
    refine gz_iload_n (pc := 17) dX8_mean_17 rfl rfl ?_
    refine gz_gk hf (fun c_11 hf => ?_)
    refine gz_cVI (av := [.int x1]) (st := []) (pc := 18) dX8_mean_18 kl_RX8_122 rfl (gz_shs c_11) rfl rfl (Nat.le_of_ble_eq_true rfl) (by show d + 0 + 0 + 1 ≤ d + 1; omega) (sX7_has (d := d + 0) (gz_gc hf)) (fun y_10 h_9 hf => ?_)
    refine gz_if_ne (tgt := 33) (pc := 21) dX8_mean_21 rfl (fun c_12 => ?_) (fun c_12 => ?_)
    · have hf := gz_gF hf c_12
      refine gz_aload_n (pc := 33) dX8_mean_33 rfl rfl ?_
      refine gz_gk hf (fun c_13 hf => ?_)
      refine gz_gb hf (fun r_14 er_14 hf => ?_)
      refine gz_getR (pc := 34) dX8_mean_34 fl_RX8_14 rfl (gz_shs c_13) er_14 ?_
      refine gz_gk hf (fun c_15 hf => ?_)
      refine gz_gb hf (fun r_16 er_16 hf => ?_)
      refine gz_getR (pc := 37) dX8_mean_37 fl_RX8_129 rfl (gz_shs c_15) er_16 ?_
      refine gz_iload_n (pc := 40) dX8_mean_40 rfl rfl ?_
      refine gz_gk hf (fun c_17 hf => ?_)
      refine gz_iald (pc := 41) dX8_mean_41 c_17 ?_
      refine gz_istore_n (lv := [.ref a0, .int x1, .int (h_9.2.1 r_16 x1.toNatClampNeg), .retAddr 0, .retAddr 0, .retAddr 0]) (pc := 42) dX8_mean_42 rfl (by decide) rfl ?_
      refine gz_iload_n (pc := 43) dX8_mean_43 rfl rfl ?_
      refine gz_if_ne (tgt := 56) (pc := 44) dX8_mean_44 rfl (fun c_18 => ?_) (fun c_18 => ?_)
      · have hf := gz_gF hf c_18
        refine gz_lconst (v := (0 : Int64)) (pc := 56) dX8_mean_56 rfl ?_
        refine gz_lstore_n (lv := [.ref a0, .int x1, .int (h_9.2.1 r_16 x1.toNatClampNeg), .long (0 : Int64), .retAddr 0, .retAddr 0]) (pc := 57) dX8_mean_57 rfl (by decide) rfl ?_
        refine gz_iconst (v := (0 : Int32)) (pc := 58) dX8_mean_58 rfl ?_
        refine gz_istore (lv := [.ref a0, .int x1, .int (h_9.2.1 r_16 x1.toNatClampNeg), .long (0 : Int64), .retAddr 0, .int (0 : Int32)]) (pc := 59) dX8_mean_59 (by decide) rfl ?_
        exact sX8_mean_61 gz_fu a0 x1 (h_9.2.1 r_16 x1.toNatClampNeg) (0 : Int64) (0 : Int32) h_9 hf
      · have hf := gz_gT hf c_18
        refine gz_aload_n (pc := 47) dX8_mean_47 rfl rfl ?_
        refine gz_gb hf (fun r_19 er_19 hf => ?_)
        refine gz_getR (pc := 48) dX8_mean_48 fl_RX8_31 rfl (gz_shs c_13) er_19 ?_
        refine gz_iconst (v := (4 : Int32)) (pc := 51) dX8_mean_51 rfl ?_
        refine gz_gk hf (fun c_22 hf => ?_)
        refine gz_cVI (av := [.int (4 : Int32)]) (st := []) (pc := 52) dX8_mean_52 kl_RX8_125 rfl (gz_shs c_22) rfl rfl (Nat.le_of_ble_eq_true rfl) (by show d + 0 + 0 + 1 ≤ d + 1; omega) (sX0_answer (d := d + 0) (gz_gc hf)) (fun y_21 h_20 hf => ?_)
        exact gz_irt (pc := 55) dX8_mean_55 rfl rfl hf
    · have hf := gz_gT hf c_12
      refine gz_aload_n (pc := 24) dX8_mean_24 rfl rfl ?_
      refine gz_gk hf (fun c_23 hf => ?_)
      refine gz_gb hf (fun r_24 er_24 hf => ?_)
      refine gz_getR (pc := 25) dX8_mean_25 fl_RX8_31 rfl (gz_shs c_23) er_24 ?_
      refine gz_iconst (v := (1 : Int32)) (pc := 28) dX8_mean_28 rfl ?_
      refine gz_gk hf (fun c_27 hf => ?_)
      refine gz_cVI (av := [.int (1 : Int32)]) (st := []) (pc := 29) dX8_mean_29 kl_RX8_125 rfl (gz_shs c_27) rfl rfl (Nat.le_of_ble_eq_true rfl) (by show d + 0 + 0 + 1 ≤ d + 1; omega) (sX0_answer (d := d + 0) (gz_gc hf)) (fun y_26 h_25 hf => ?_)
      exact gz_irt (pc := 32) dX8_mean_32 rfl rfl hf
  · have hf := gz_gT hf c_6
    refine gz_iconst (v := (-1 : Int32)) (pc := 11) dX8_mean_11 rfl ?_
    exact gz_irt (pc := 12) dX8_mean_12 rfl rfl hf
def fX8_mean (a0 : Nat) (x1 : Int32) (h : gz_H) : Option (Int32 × gz_H) := fX8_mean_0 a0 x1 h
theorem sX8_mean {G : gz_G} {d : Nat} {a0 : Nat} {x1 : Int32} {h : gz_H} {Q : Int32 → gz_H → Prop} (hf : gz_g (fX8_mean a0 x1 h) Q) : gz_Cl G mX8_mean (d + 1) 0 0 [.ref a0, .int x1] h (gz_qi Q) := gz_cl_of (lo := [.ref a0, .int x1, .retAddr 0, .retAddr 0, .retAddr 0, .retAddr 0]) (by decide) rfl rfl (Nat.le_of_ble_eq_true rfl) (sX8_mean_0 a0 x1 h hf)
theorem dX8_text_0 : decode cX8_text 0 = .ok (.aload_n 0, 1) := by decide +kernel
theorem dX8_text_1 : decode cX8_text 1 = .ok (.aload_n 0, 1) := by decide +kernel
theorem dX8_text_2 : decode cX8_text 2 = .ok (.getfield 18, 3) := by decide +kernel
theorem dX8_text_5 : decode cX8_text 5 = .ok (.iload_n 1, 1) := by decide +kernel
theorem dX8_text_6 : decode cX8_text 6 = .ok (.iload_n 2, 1) := by decide +kernel
theorem dX8_text_7 : decode cX8_text 7 = .ok (.bipush 32, 2) := by decide +kernel
theorem dX8_text_9 : decode cX8_text 9 = .ok (.invokevirtual 103, 3) := by decide +kernel
theorem dX8_text_12 : decode cX8_text 12 = .ok (.ireturn, 1) := by decide +kernel
def fX8_text_0  (a0 : Nat) (x1 : Int32) (x2 : Int32) (h : gz_H) : Option (Int32 × gz_H) :=
    gz_ck (gz_sh h a0 8 19) <|
    gz_br (h.2.2.2 a0 1) fun r_2 =>
    gz_b2 (fX8_layOut a0 r_2 x1 x2 (32 : Int32) h) fun y_4 h_3 =>
    some (y_4, h_3)
set_option maxRecDepth 100000 in
set_option maxHeartbeats 1000000 in
theorem sX8_text_0 {G : gz_G} {d l0 s0 : Nat} {Q : Int32 → gz_H → Prop} (a0 : Nat) (x1 : Int32) (x2 : Int32) (h : gz_H) (hf : gz_g (fX8_text_0  a0 x1 x2 h) Q) : gz_Ok G mX8_text (d + 3, l0, s0, 0, 0) 0 [.ref a0, .int x1, .int x2] [] h (gz_qi Q) := by
  unfold fX8_text_0 at hf
  refine gz_aload_n (pc := 0) dX8_text_0 rfl rfl ?_
  refine gz_aload_n (pc := 1) dX8_text_1 rfl rfl ?_
  refine gz_gk hf (fun c_1 hf => ?_)
  refine gz_gb hf (fun r_2 er_2 hf => ?_)
  refine gz_getR (pc := 2) dX8_text_2 fl_RX8_18 rfl (gz_shs c_1) er_2 ?_
  refine gz_iload_n (pc := 5) dX8_text_5 rfl rfl ?_
  refine gz_iload_n (pc := 6) dX8_text_6 rfl rfl ?_
  refine gz_bipush (v := (32 : Int32)) (pc := 7) dX8_text_7 rfl ?_
  refine gz_cVI (av := [.ref r_2, .int x1, .int x2, .int (32 : Int32)]) (st := []) (pc := 9) dX8_text_9 kl_RX8_103 rfl (gz_shs c_1) rfl rfl (Nat.le_of_ble_eq_true rfl) (by show d + 0 + 2 + 1 ≤ d + 3; omega) (sX8_layOut (d := d + 0) (gz_gc hf)) (fun y_4 h_3 hf => ?_)
  exact gz_irt (pc := 12) dX8_text_12 rfl rfl hf
def fX8_text (a0 : Nat) (x1 : Int32) (x2 : Int32) (h : gz_H) : Option (Int32 × gz_H) := fX8_text_0 a0 x1 x2 h
theorem sX8_text {G : gz_G} {d : Nat} {a0 : Nat} {x1 : Int32} {x2 : Int32} {h : gz_H} {Q : Int32 → gz_H → Prop} (hf : gz_g (fX8_text a0 x1 x2 h) Q) : gz_Cl G mX8_text (d + 3) 0 0 [.ref a0, .int x1, .int x2] h (gz_qi Q) := gz_cl_of (lo := [.ref a0, .int x1, .int x2]) (by decide) rfl rfl (Nat.le_of_ble_eq_true rfl) (sX8_text_0 a0 x1 x2 h hf)
theorem dX8_put_0 : decode cX8_put 0 = .ok (.aload_n 0, 1) := by decide +kernel
theorem dX8_put_1 : decode cX8_put 1 = .ok (.aload_n 0, 1) := by decide +kernel
theorem dX8_put_2 : decode cX8_put 2 = .ok (.getfield 18, 3) := by decide +kernel
theorem dX8_put_5 : decode cX8_put 5 = .ok (.iload_n 1, 1) := by decide +kernel
theorem dX8_put_6 : decode cX8_put 6 = .ok (.iload_n 2, 1) := by decide +kernel
theorem dX8_put_7 : decode cX8_put 7 = .ok (.invokevirtual 107, 3) := by decide +kernel
theorem dX8_put_10 : decode cX8_put 10 = .ok (.istore 4, 2) := by decide +kernel
theorem dX8_put_12 : decode cX8_put 12 = .ok (.iload 4, 2) := by decide +kernel
theorem dX8_put_14 : decode cX8_put 14 = .ok (.ifCond .eq 6, 3) := by decide +kernel
theorem dX8_put_17 : decode cX8_put 17 = .ok (.iload 4, 2) := by decide +kernel
theorem dX8_put_19 : decode cX8_put 19 = .ok (.ireturn, 1) := by decide +kernel
theorem dX8_put_20 : decode cX8_put 20 = .ok (.aload_n 0, 1) := by decide +kernel
theorem dX8_put_21 : decode cX8_put 21 = .ok (.getfield 18, 3) := by decide +kernel
theorem dX8_put_24 : decode cX8_put 24 = .ok (.getfield 111, 3) := by decide +kernel
theorem dX8_put_27 : decode cX8_put 27 = .ok (.iload_n 1, 1) := by decide +kernel
theorem dX8_put_28 : decode cX8_put 28 = .ok (.aaload, 1) := by decide +kernel
theorem dX8_put_29 : decode cX8_put 29 = .ok (.iload_n 2, 1) := by decide +kernel
theorem dX8_put_30 : decode cX8_put 30 = .ok (.iaload, 1) := by decide +kernel
theorem dX8_put_31 : decode cX8_put 31 = .ok (.istore 5, 2) := by decide +kernel
theorem dX8_put_33 : decode cX8_put 33 = .ok (.aload_n 0, 1) := by decide +kernel
theorem dX8_put_34 : decode cX8_put 34 = .ok (.getfield 18, 3) := by decide +kernel
theorem dX8_put_37 : decode cX8_put 37 = .ok (.getfield 111, 3) := by decide +kernel
theorem dX8_put_40 : decode cX8_put 40 = .ok (.iload_n 1, 1) := by decide +kernel
theorem dX8_put_41 : decode cX8_put 41 = .ok (.aaload, 1) := by decide +kernel
theorem dX8_put_42 : decode cX8_put 42 = .ok (.iload_n 2, 1) := by decide +kernel
theorem dX8_put_43 : decode cX8_put 43 = .ok (.iload_n 3, 1) := by decide +kernel
theorem dX8_put_44 : decode cX8_put 44 = .ok (.i2b, 1) := by decide +kernel
theorem dX8_put_45 : decode cX8_put 45 = .ok (.iastore, 1) := by decide +kernel
theorem dX8_put_46 : decode cX8_put 46 = .ok (.iload 5, 2) := by decide +kernel
theorem dX8_put_48 : decode cX8_put 48 = .ok (.sipush 1000, 3) := by decide +kernel
theorem dX8_put_51 : decode cX8_put 51 = .ok (.iadd, 1) := by decide +kernel
theorem dX8_put_52 : decode cX8_put 52 = .ok (.ireturn, 1) := by decide +kernel
def fX8_put_0  (a0 : Nat) (x1 : Int32) (x2 : Int32) (x3 : Int32) (h : gz_H) : Option (Int32 × gz_H) :=
    gz_ck (gz_sh h a0 8 19) <|
    gz_br (h.2.2.2 a0 1) fun r_2 =>
    gz_b2 (fX8_refusalOfCell a0 r_2 x1 x2 h) fun y_4 h_3 =>
    if y_4 = 0 then (
     gz_ck (gz_sh h_3 a0 8 19) <|
     gz_br (h_3.2.2.2 a0 1) fun r_7 =>
     gz_ck (gz_sh h_3 r_7 7 3) <|
     gz_br (h_3.2.2.2 r_7 1) fun r_9 =>
     gz_ck (gz_inb h_3 r_9 13 x1) <|
     gz_br (h_3.2.2.2 r_9 x1.toNatClampNeg) fun r_11 =>
     gz_ck (gz_inb h_3 r_11 10 x2) <|
     gz_lt (uI h_3 r_11 x2.toNatClampNeg x3.toInt8.toInt32) fun h_13 =>
     some ((h_3.2.1 r_11 x2.toNatClampNeg) + (1000 : Int32), h_13)
    ) else (
     some (y_4, h_3)
    )
set_option maxRecDepth 100000 in
set_option maxHeartbeats 1000000 in
theorem sX8_put_0 {G : gz_G} {d l0 s0 : Nat} {Q : Int32 → gz_H → Prop} (a0 : Nat) (x1 : Int32) (x2 : Int32) (x3 : Int32) (h : gz_H) (hf : gz_g (fX8_put_0  a0 x1 x2 x3 h) Q) : gz_Ok G mX8_put (d + 2, l0, s0, 0, 0) 0 [.ref a0, .int x1, .int x2, .int x3, .retAddr 0, .retAddr 0] [] h (gz_qi Q) := by
  unfold fX8_put_0 at hf
  refine gz_aload_n (pc := 0) dX8_put_0 rfl rfl ?_
  refine gz_aload_n (pc := 1) dX8_put_1 rfl rfl ?_
  refine gz_gk hf (fun c_1 hf => ?_)
  refine gz_gb hf (fun r_2 er_2 hf => ?_)
  refine gz_getR (pc := 2) dX8_put_2 fl_RX8_18 rfl (gz_shs c_1) er_2 ?_
  refine gz_iload_n (pc := 5) dX8_put_5 rfl rfl ?_
  refine gz_iload_n (pc := 6) dX8_put_6 rfl rfl ?_
  refine gz_cVI (av := [.ref r_2, .int x1, .int x2]) (st := []) (pc := 7) dX8_put_7 kl_RX8_107 rfl (gz_shs c_1) rfl rfl (Nat.le_of_ble_eq_true rfl) (by show d + 0 + 1 + 1 ≤ d + 2; omega) (sX8_refusalOfCell (d := d + 0) (gz_gc hf)) (fun y_4 h_3 hf => ?_)
  refine gz_istore (lv := [.ref a0, .int x1, .int x2, .int x3, .int y_4, .retAddr 0]) (pc := 10) dX8_put_10 (by decide) rfl ?_
  refine gz_iload (pc := 12) dX8_put_12 rfl ?_
  refine gz_if_eq (tgt := 20) (pc := 14) dX8_put_14 rfl (fun c_5 => ?_) (fun c_5 => ?_)
  · have hf := gz_gT hf c_5
    refine gz_aload_n (pc := 20) dX8_put_20 rfl rfl ?_
    refine gz_gk hf (fun c_6 hf => ?_)
    refine gz_gb hf (fun r_7 er_7 hf => ?_)
    refine gz_getR (pc := 21) dX8_put_21 fl_RX8_18 rfl (gz_shs c_6) er_7 ?_
    refine gz_gk hf (fun c_8 hf => ?_)
    refine gz_gb hf (fun r_9 er_9 hf => ?_)
    refine gz_getR (pc := 24) dX8_put_24 fl_RX8_111 rfl (gz_shs c_8) er_9 ?_
    refine gz_iload_n (pc := 27) dX8_put_27 rfl rfl ?_
    refine gz_gk hf (fun c_10 hf => ?_)
    refine gz_gb hf (fun r_11 er_11 hf => ?_)
    refine gz_aald (Or.inr (Or.inr rfl)) (pc := 28) dX8_put_28 c_10 er_11 ?_
    refine gz_iload_n (pc := 29) dX8_put_29 rfl rfl ?_
    refine gz_gk hf (fun c_12 hf => ?_)
    refine gz_iald (pc := 30) dX8_put_30 c_12 ?_
    refine gz_istore (lv := [.ref a0, .int x1, .int x2, .int x3, .int y_4, .int (h_3.2.1 r_11 x2.toNatClampNeg)]) (pc := 31) dX8_put_31 (by decide) rfl ?_
    refine gz_aload_n (pc := 33) dX8_put_33 rfl rfl ?_
    refine gz_getR (pc := 34) dX8_put_34 fl_RX8_18 rfl (gz_shs c_6) er_7 ?_
    refine gz_getR (pc := 37) dX8_put_37 fl_RX8_111 rfl (gz_shs c_8) er_9 ?_
    refine gz_iload_n (pc := 40) dX8_put_40 rfl rfl ?_
    refine gz_aald (Or.inr (Or.inr rfl)) (pc := 41) dX8_put_41 c_10 er_11 ?_
    refine gz_iload_n (pc := 42) dX8_put_42 rfl rfl ?_
    refine gz_iload_n (pc := 43) dX8_put_43 rfl rfl ?_
    refine gz_i2b (pc := 44) dX8_put_44 ?_
    refine gz_iast (pc := 45) dX8_put_45 c_12 ?_
    refine gz_nmH (fun h_13 eh_13 => ?_)
    have hf := gz_gl eh_13 hf
    refine gz_iload (pc := 46) dX8_put_46 rfl ?_
    refine gz_sipush (v := (1000 : Int32)) (pc := 48) dX8_put_48 rfl ?_
    refine gz_iadd (pc := 51) dX8_put_51 ?_
    exact gz_irt (pc := 52) dX8_put_52 rfl rfl hf
  · have hf := gz_gF hf c_5
    refine gz_iload (pc := 17) dX8_put_17 rfl ?_
    exact gz_irt (pc := 19) dX8_put_19 rfl rfl hf
def fX8_put (a0 : Nat) (x1 : Int32) (x2 : Int32) (x3 : Int32) (h : gz_H) : Option (Int32 × gz_H) := fX8_put_0 a0 x1 x2 x3 h
theorem sX8_put {G : gz_G} {d : Nat} {a0 : Nat} {x1 : Int32} {x2 : Int32} {x3 : Int32} {h : gz_H} {Q : Int32 → gz_H → Prop} (hf : gz_g (fX8_put a0 x1 x2 x3 h) Q) : gz_Cl G mX8_put (d + 2) 0 0 [.ref a0, .int x1, .int x2, .int x3] h (gz_qi Q) := gz_cl_of (lo := [.ref a0, .int x1, .int x2, .int x3, .retAddr 0, .retAddr 0]) (by decide) rfl rfl (Nat.le_of_ble_eq_true rfl) (sX8_put_0 a0 x1 x2 x3 h hf)
theorem dX8_fault_0 : decode cX8_fault 0 = .ok (.aload_n 0, 1) := by decide +kernel
theorem dX8_fault_1 : decode cX8_fault 1 = .ok (.getfield 18, 3) := by decide +kernel
theorem dX8_fault_4 : decode cX8_fault 4 = .ok (.iload_n 1, 1) := by decide +kernel
theorem dX8_fault_5 : decode cX8_fault 5 = .ok (.invokevirtual 118, 3) := by decide +kernel
theorem dX8_fault_8 : decode cX8_fault 8 = .ok (.ifCond .ne 5, 3) := by decide +kernel
theorem dX8_fault_11 : decode cX8_fault 11 = .ok (.iconst (-1), 1) := by decide +kernel
theorem dX8_fault_12 : decode cX8_fault 12 = .ok (.ireturn, 1) := by decide +kernel
theorem dX8_fault_13 : decode cX8_fault 13 = .ok (.aload_n 0, 1) := by decide +kernel
theorem dX8_fault_14 : decode cX8_fault 14 = .ok (.getfield 18, 3) := by decide +kernel
theorem dX8_fault_17 : decode cX8_fault 17 = .ok (.iload_n 1, 1) := by decide +kernel
theorem dX8_fault_18 : decode cX8_fault 18 = .ok (.invokevirtual 122, 3) := by decide +kernel
theorem dX8_fault_21 : decode cX8_fault 21 = .ok (.ifCond .ne 12, 3) := by decide +kernel
theorem dX8_fault_24 : decode cX8_fault 24 = .ok (.aload_n 0, 1) := by decide +kernel
theorem dX8_fault_25 : decode cX8_fault 25 = .ok (.getfield 31, 3) := by decide +kernel
theorem dX8_fault_28 : decode cX8_fault 28 = .ok (.iconst 1, 1) := by decide +kernel
theorem dX8_fault_29 : decode cX8_fault 29 = .ok (.invokevirtual 125, 3) := by decide +kernel
theorem dX8_fault_32 : decode cX8_fault 32 = .ok (.ireturn, 1) := by decide +kernel
theorem dX8_fault_33 : decode cX8_fault 33 = .ok (.aload_n 0, 1) := by decide +kernel
theorem dX8_fault_34 : decode cX8_fault 34 = .ok (.getfield 24, 3) := by decide +kernel
theorem dX8_fault_37 : decode cX8_fault 37 = .ok (.aload_n 0, 1) := by decide +kernel
theorem dX8_fault_38 : decode cX8_fault 38 = .ok (.getfield 18, 3) := by decide +kernel
theorem dX8_fault_41 : decode cX8_fault 41 = .ok (.getfield 111, 3) := by decide +kernel
theorem dX8_fault_44 : decode cX8_fault 44 = .ok (.iload_n 1, 1) := by decide +kernel
theorem dX8_fault_45 : decode cX8_fault 45 = .ok (.aaload, 1) := by decide +kernel
theorem dX8_fault_46 : decode cX8_fault 46 = .ok (.aload_n 0, 1) := by decide +kernel
theorem dX8_fault_47 : decode cX8_fault 47 = .ok (.getfield 18, 3) := by decide +kernel
theorem dX8_fault_50 : decode cX8_fault 50 = .ok (.getfield 129, 3) := by decide +kernel
theorem dX8_fault_53 : decode cX8_fault 53 = .ok (.iload_n 1, 1) := by decide +kernel
theorem dX8_fault_54 : decode cX8_fault 54 = .ok (.iaload, 1) := by decide +kernel
theorem dX8_fault_55 : decode cX8_fault 55 = .ok (.aload_n 0, 1) := by decide +kernel
theorem dX8_fault_56 : decode cX8_fault 56 = .ok (.getfield 77, 3) := by decide +kernel
theorem dX8_fault_59 : decode cX8_fault 59 = .ok (.invokevirtual 142, 3) := by decide +kernel
theorem dX8_fault_62 : decode cX8_fault 62 = .ok (.ireturn, 1) := by decide +kernel
def fX8_fault_0  (a0 : Nat) (x1 : Int32) (h : gz_H) : Option (Int32 × gz_H) :=
    gz_ck (gz_sh h a0 8 19) <|
    gz_br (h.2.2.2 a0 1) fun r_2 =>
    gz_ck (gz_sh h r_2 7 3) <|
    gz_b2 (fX7_knows r_2 x1 h) fun y_4 h_3 =>
    if y_4 = 0 then (
     some ((-1 : Int32), h_3)
    ) else (
     gz_ck (gz_sh h_3 a0 8 19) <|
     gz_br (h_3.2.2.2 a0 1) fun r_8 =>
     gz_ck (gz_sh h_3 r_8 7 3) <|
     gz_b2 (fX7_has r_8 x1 h_3) fun y_10 h_9 =>
     if y_10 = 0 then (
      gz_ck (gz_sh h_9 a0 8 19) <|
      gz_br (h_9.2.2.2 a0 3) fun r_27 =>
      gz_ck (gz_sh h_9 r_27 0 2) <|
      gz_b2 (fX0_answer r_27 (1 : Int32) h_9) fun y_29 h_28 =>
      some (y_29, h_28)
     ) else (
      gz_ck (gz_sh h_9 a0 8 19) <|
      gz_br (h_9.2.2.2 a0 2) fun r_14 =>
      gz_br (h_9.2.2.2 a0 1) fun r_15 =>
      gz_ck (gz_sh h_9 r_15 7 3) <|
      gz_br (h_9.2.2.2 r_15 1) fun r_17 =>
      gz_ck (gz_inb h_9 r_17 13 x1) <|
      gz_br (h_9.2.2.2 r_17 x1.toNatClampNeg) fun r_19 =>
      gz_br (h_9.2.2.2 r_15 2) fun r_20 =>
      gz_ck (gz_inb h_9 r_20 10 x1) <|
      gz_br (h_9.2.2.2 a0 11) fun r_22 =>
      gz_ck (gz_sh h_9 r_14 5 4) <|
      gz_b2 (fX5_readFlock r_14 r_19 (h_9.2.1 r_20 x1.toNatClampNeg) r_22 h_9) fun y_24 h_23 =>
      some (y_24, h_23)
     )
    )
set_option maxRecDepth 100000 in
set_option maxHeartbeats 1000000 in
theorem sX8_fault_0 {G : gz_G} {d l0 s0 : Nat} {Q : Int32 → gz_H → Prop} (a0 : Nat) (x1 : Int32) (h : gz_H) (hf : gz_g (fX8_fault_0  a0 x1 h) Q) : gz_Ok G mX8_fault (d + 4, l0, s0, 0, 0) 0 [.ref a0, .int x1] [] h (gz_qi Q) := by
  unfold fX8_fault_0 at hf
  refine gz_aload_n (pc := 0) dX8_fault_0 rfl rfl ?_
  refine gz_gk hf (fun c_1 hf => ?_)
  refine gz_gb hf (fun r_2 er_2 hf => ?_)
  refine gz_getR (pc := 1) dX8_fault_1 fl_RX8_18 rfl (gz_shs c_1) er_2 ?_
  refine gz_iload_n (pc := 4) dX8_fault_4 rfl rfl ?_
  refine gz_gk hf (fun c_5 hf => ?_)
  refine gz_cVI (av := [.int x1]) (st := []) (pc := 5) dX8_fault_5 kl_RX8_118 rfl (gz_shs c_5) rfl rfl (Nat.le_of_ble_eq_true rfl) (by show d + 3 + 0 + 1 ≤ d + 4; omega) (sX7_knows (d := d + 3) (gz_gc hf)) (fun y_4 h_3 hf => ?_)
  refine gz_if_ne (tgt := 13) (pc := 8) dX8_fault_8 rfl (fun c_6 => ?_) (fun c_6 => ?_)
  · have hf := gz_gF hf c_6
    refine gz_aload_n (pc := 13) dX8_fault_13 rfl rfl ?_
    refine gz_gk hf (fun c_7 hf => ?_)
    refine gz_gb hf (fun r_8 er_8 hf => ?_)
    refine gz_getR (pc := 14) dX8_fault_14 fl_RX8_18 rfl (gz_shs c_7) er_8 ?_
    refine gz_iload_n (pc := 17) dX8_fault_17 rfl rfl ?_
    refine gz_gk hf (fun c_11 hf => ?_)
    refine gz_cVI (av := [.int x1]) (st := []) (pc := 18) dX8_fault_18 kl_RX8_122 rfl (gz_shs c_11) rfl rfl (Nat.le_of_ble_eq_true rfl) (by show d + 3 + 0 + 1 ≤ d + 4; omega) (sX7_has (d := d + 3) (gz_gc hf)) (fun y_10 h_9 hf => ?_)
    refine gz_if_ne (tgt := 33) (pc := 21) dX8_fault_21 rfl (fun c_12 => ?_) (fun c_12 => ?_)
    · have hf := gz_gF hf c_12
      refine gz_aload_n (pc := 33) dX8_fault_33 rfl rfl ?_
      refine gz_gk hf (fun c_13 hf => ?_)
      refine gz_gb hf (fun r_14 er_14 hf => ?_)
      refine gz_getR (pc := 34) dX8_fault_34 fl_RX8_24 rfl (gz_shs c_13) er_14 ?_
      refine gz_aload_n (pc := 37) dX8_fault_37 rfl rfl ?_
      refine gz_gb hf (fun r_15 er_15 hf => ?_)
      refine gz_getR (pc := 38) dX8_fault_38 fl_RX8_18 rfl (gz_shs c_13) er_15 ?_
      refine gz_gk hf (fun c_16 hf => ?_)
      refine gz_gb hf (fun r_17 er_17 hf => ?_)
      refine gz_getR (pc := 41) dX8_fault_41 fl_RX8_111 rfl (gz_shs c_16) er_17 ?_
      refine gz_iload_n (pc := 44) dX8_fault_44 rfl rfl ?_
      refine gz_gk hf (fun c_18 hf => ?_)
      refine gz_gb hf (fun r_19 er_19 hf => ?_)
      refine gz_aald (Or.inr (Or.inr rfl)) (pc := 45) dX8_fault_45 c_18 er_19 ?_
      refine gz_aload_n (pc := 46) dX8_fault_46 rfl rfl ?_
      refine gz_getR (pc := 47) dX8_fault_47 fl_RX8_18 rfl (gz_shs c_13) er_15 ?_
      refine gz_gb hf (fun r_20 er_20 hf => ?_)
      refine gz_getR (pc := 50) dX8_fault_50 fl_RX8_129 rfl (gz_shs c_16) er_20 ?_
      refine gz_iload_n (pc := 53) dX8_fault_53 rfl rfl ?_
      refine gz_gk hf (fun c_21 hf => ?_)
      refine gz_iald (pc := 54) dX8_fault_54 c_21 ?_
      refine gz_aload_n (pc := 55) dX8_fault_55 rfl rfl ?_
      refine gz_gb hf (fun r_22 er_22 hf => ?_)
      refine gz_getR (pc := 56) dX8_fault_56 fl_RX8_77 rfl (gz_shs c_13) er_22 ?_
      refine gz_gk hf (fun c_25 hf => ?_)
      refine gz_cVI (av := [.ref r_19, .int (h_9.2.1 r_20 x1.toNatClampNeg), .ref r_22]) (st := []) (pc := 59) dX8_fault_59 kl_RX8_142 rfl (gz_shs c_25) rfl rfl (Nat.le_of_ble_eq_true rfl) (by show d + 0 + 3 + 1 ≤ d + 4; omega) (sX5_readFlock (d := d + 0) (gz_gc hf)) (fun y_24 h_23 hf => ?_)
      exact gz_irt (pc := 62) dX8_fault_62 rfl rfl hf
    · have hf := gz_gT hf c_12
      refine gz_aload_n (pc := 24) dX8_fault_24 rfl rfl ?_
      refine gz_gk hf (fun c_26 hf => ?_)
      refine gz_gb hf (fun r_27 er_27 hf => ?_)
      refine gz_getR (pc := 25) dX8_fault_25 fl_RX8_31 rfl (gz_shs c_26) er_27 ?_
      refine gz_iconst (v := (1 : Int32)) (pc := 28) dX8_fault_28 rfl ?_
      refine gz_gk hf (fun c_30 hf => ?_)
      refine gz_cVI (av := [.int (1 : Int32)]) (st := []) (pc := 29) dX8_fault_29 kl_RX8_125 rfl (gz_shs c_30) rfl rfl (Nat.le_of_ble_eq_true rfl) (by show d + 3 + 0 + 1 ≤ d + 4; omega) (sX0_answer (d := d + 3) (gz_gc hf)) (fun y_29 h_28 hf => ?_)
      exact gz_irt (pc := 32) dX8_fault_32 rfl rfl hf
  · have hf := gz_gT hf c_6
    refine gz_iconst (v := (-1 : Int32)) (pc := 11) dX8_fault_11 rfl ?_
    exact gz_irt (pc := 12) dX8_fault_12 rfl rfl hf
def fX8_fault (a0 : Nat) (x1 : Int32) (h : gz_H) : Option (Int32 × gz_H) := fX8_fault_0 a0 x1 h
theorem sX8_fault {G : gz_G} {d : Nat} {a0 : Nat} {x1 : Int32} {h : gz_H} {Q : Int32 → gz_H → Prop} (hf : gz_g (fX8_fault a0 x1 h) Q) : gz_Cl G mX8_fault (d + 4) 0 0 [.ref a0, .int x1] h (gz_qi Q) := gz_cl_of (lo := [.ref a0, .int x1]) (by decide) rfl rfl (Nat.le_of_ble_eq_true rfl) (sX8_fault_0 a0 x1 h hf)
theorem dX8_repeatDeeds_0 : decode cX8_repeatDeeds 0 = .ok (.aload_n 0, 1) := by decide +kernel
theorem dX8_repeatDeeds_1 : decode cX8_repeatDeeds 1 = .ok (.getfield 70, 3) := by decide +kernel
theorem dX8_repeatDeeds_4 : decode cX8_repeatDeeds 4 = .ok (.aload_n 0, 1) := by decide +kernel
theorem dX8_repeatDeeds_5 : decode cX8_repeatDeeds 5 = .ok (.getfield 74, 3) := by decide +kernel
theorem dX8_repeatDeeds_8 : decode cX8_repeatDeeds 8 = .ok (.invokevirtual 358, 3) := by decide +kernel
theorem dX8_repeatDeeds_11 : decode cX8_repeatDeeds 11 = .ok (.iconst 0, 1) := by decide +kernel
theorem dX8_repeatDeeds_12 : decode cX8_repeatDeeds 12 = .ok (.istore_n 1, 1) := by decide +kernel
theorem dX8_repeatDeeds_13 : decode cX8_repeatDeeds 13 = .ok (.iload_n 1, 1) := by decide +kernel
theorem dX8_repeatDeeds_14 : decode cX8_repeatDeeds 14 = .ok (.aload_n 0, 1) := by decide +kernel
theorem dX8_repeatDeeds_15 : decode cX8_repeatDeeds 15 = .ok (.getfield 59, 3) := by decide +kernel
theorem dX8_repeatDeeds_18 : decode cX8_repeatDeeds 18 = .ok (.getfield 99, 3) := by decide +kernel
theorem dX8_repeatDeeds_21 : decode cX8_repeatDeeds 21 = .ok (.if_icmp .ge 41, 3) := by decide +kernel
theorem dX8_repeatDeeds_24 : decode cX8_repeatDeeds 24 = .ok (.aload_n 0, 1) := by decide +kernel
theorem dX8_repeatDeeds_25 : decode cX8_repeatDeeds 25 = .ok (.getfield 70, 3) := by decide +kernel
theorem dX8_repeatDeeds_28 : decode cX8_repeatDeeds 28 = .ok (.aload_n 0, 1) := by decide +kernel
theorem dX8_repeatDeeds_29 : decode cX8_repeatDeeds 29 = .ok (.getfield 59, 3) := by decide +kernel
theorem dX8_repeatDeeds_32 : decode cX8_repeatDeeds 32 = .ok (.iload_n 1, 1) := by decide +kernel
theorem dX8_repeatDeeds_33 : decode cX8_repeatDeeds 33 = .ok (.invokevirtual 361, 3) := by decide +kernel
theorem dX8_repeatDeeds_36 : decode cX8_repeatDeeds 36 = .ok (.aload_n 0, 1) := by decide +kernel
theorem dX8_repeatDeeds_37 : decode cX8_repeatDeeds 37 = .ok (.getfield 59, 3) := by decide +kernel
theorem dX8_repeatDeeds_40 : decode cX8_repeatDeeds 40 = .ok (.iload_n 1, 1) := by decide +kernel
theorem dX8_repeatDeeds_41 : decode cX8_repeatDeeds 41 = .ok (.invokevirtual 364, 3) := by decide +kernel
theorem dX8_repeatDeeds_44 : decode cX8_repeatDeeds 44 = .ok (.aload_n 0, 1) := by decide +kernel
theorem dX8_repeatDeeds_45 : decode cX8_repeatDeeds 45 = .ok (.getfield 59, 3) := by decide +kernel
theorem dX8_repeatDeeds_48 : decode cX8_repeatDeeds 48 = .ok (.iload_n 1, 1) := by decide +kernel
theorem dX8_repeatDeeds_49 : decode cX8_repeatDeeds 49 = .ok (.invokevirtual 367, 3) := by decide +kernel
theorem dX8_repeatDeeds_52 : decode cX8_repeatDeeds 52 = .ok (.invokevirtual 349, 3) := by decide +kernel
theorem dX8_repeatDeeds_55 : decode cX8_repeatDeeds 55 = .ok (.pop, 1) := by decide +kernel
theorem dX8_repeatDeeds_56 : decode cX8_repeatDeeds 56 = .ok (.iinc 1 1, 3) := by decide +kernel
theorem dX8_repeatDeeds_59 : decode cX8_repeatDeeds 59 = .ok (.goto (-46), 3) := by decide +kernel
theorem dX8_repeatDeeds_62 : decode cX8_repeatDeeds 62 = .ok (.return_, 1) := by decide +kernel
def fX8_repeatDeeds_13  : Nat → Nat → Int32 → gz_H → Option (Unit × gz_H)
  | 0, _, _, _ => none
  | n + 1, a0, x1, h =>
    gz_ck (gz_sh h a0 8 19) <|
    gz_br (h.2.2.2 a0 7) fun r_2 =>
    gz_ck (gz_sh h r_2 3 2) <|
    if (h.2.1 r_2 1) ≤ x1 then (
     some ((), h)
    ) else (
     gz_br (h.2.2.2 a0 9) fun r_5 =>
     gz_b2 (fX3_deedAt r_2 x1 h) fun y_7 h_6 =>
     gz_ck (gz_sh h_6 a0 8 19) <|
     gz_br (h_6.2.2.2 a0 7) fun r_9 =>
     gz_ck (gz_sh h_6 r_9 3 2) <|
     gz_b2 (fX3_doneTo r_9 x1 h_6) fun y_11 h_10 =>
     gz_ck (gz_sh h_10 a0 8 19) <|
     gz_br (h_10.2.2.2 a0 7) fun r_14 =>
     gz_ck (gz_sh h_10 r_14 3 2) <|
     gz_b2 (fX3_doneWith r_14 x1 h_10) fun y_16 h_15 =>
     gz_ck (gz_sh h_15 r_5 1 4) <|
     gz_b2 (fX1_perform r_5 y_7 y_11 y_16 h_15) fun y_19 h_18 =>
     fX8_repeatDeeds_13 n a0 (x1 + 1) h_18
    )
set_option maxRecDepth 100000 in
set_option maxHeartbeats 1000000 in
theorem sX8_repeatDeeds_13 {G : gz_G} {d l0 s0 : Nat} {Q : Unit → gz_H → Prop} : ∀ (n : Nat) (a0 : Nat) (x1 : Int32) (h : gz_H), gz_g (fX8_repeatDeeds_13  n a0 x1 h) Q → gz_Ok G mX8_repeatDeeds (d + 6, l0, s0, 0, 0) 13 [.ref a0, .int x1] [] h (gz_qu Q) := by
  intro n
  induction n with
  | zero => intro a0 x1 h hf; exact False.elim hf
  | succ n ih =>
    intro a0 x1 h hf
    rw [fX8_repeatDeeds_13] at hf
    refine gz_iload_n (pc := 13) dX8_repeatDeeds_13 rfl rfl ?_
    refine gz_aload_n (pc := 14) dX8_repeatDeeds_14 rfl rfl ?_
    refine gz_gk hf (fun c_1 hf => ?_)
    refine gz_gb hf (fun r_2 er_2 hf => ?_)
    refine gz_getR (pc := 15) dX8_repeatDeeds_15 fl_RX8_59 rfl (gz_shs c_1) er_2 ?_
    refine gz_gk hf (fun c_3 hf => ?_)
    refine gz_getI (pc := 18) dX8_repeatDeeds_18 fl_RX8_99 rfl (gz_shs c_3) ?_
    refine gz_icmp_ge (tgt := 62) (pc := 21) dX8_repeatDeeds_21 rfl (fun c_4 => ?_) (fun c_4 => ?_)
    · have hf := gz_gT hf c_4
      exact gz_uret (pc := 62) dX8_repeatDeeds_62 rfl hf
    · have hf := gz_gF hf c_4
      refine gz_aload_n (pc := 24) dX8_repeatDeeds_24 rfl rfl ?_
      refine gz_gb hf (fun r_5 er_5 hf => ?_)
      refine gz_getR (pc := 25) dX8_repeatDeeds_25 fl_RX8_70 rfl (gz_shs c_1) er_5 ?_
      refine gz_aload_n (pc := 28) dX8_repeatDeeds_28 rfl rfl ?_
      refine gz_getR (pc := 29) dX8_repeatDeeds_29 fl_RX8_59 rfl (gz_shs c_1) er_2 ?_
      refine gz_iload_n (pc := 32) dX8_repeatDeeds_32 rfl rfl ?_
      refine gz_cVI (av := [.int x1]) (st := [.ref r_5]) (pc := 33) dX8_repeatDeeds_33 kl_RX8_361 rfl (gz_shs c_3) rfl rfl (Nat.le_of_ble_eq_true rfl) (by show d + 5 + 0 + 1 ≤ d + 6; omega) (sX3_deedAt (d := d + 5) (gz_gc hf)) (fun y_7 h_6 hf => ?_)
      refine gz_aload_n (pc := 36) dX8_repeatDeeds_36 rfl rfl ?_
      refine gz_gk hf (fun c_8 hf => ?_)
      refine gz_gb hf (fun r_9 er_9 hf => ?_)
      refine gz_getR (pc := 37) dX8_repeatDeeds_37 fl_RX8_59 rfl (gz_shs c_8) er_9 ?_
      refine gz_iload_n (pc := 40) dX8_repeatDeeds_40 rfl rfl ?_
      refine gz_gk hf (fun c_12 hf => ?_)
      refine gz_cVI (av := [.int x1]) (st := [.int y_7, .ref r_5]) (pc := 41) dX8_repeatDeeds_41 kl_RX8_364 rfl (gz_shs c_12) rfl rfl (Nat.le_of_ble_eq_true rfl) (by show d + 5 + 0 + 1 ≤ d + 6; omega) (sX3_doneTo (d := d + 5) (gz_gc hf)) (fun y_11 h_10 hf => ?_)
      refine gz_aload_n (pc := 44) dX8_repeatDeeds_44 rfl rfl ?_
      refine gz_gk hf (fun c_13 hf => ?_)
      refine gz_gb hf (fun r_14 er_14 hf => ?_)
      refine gz_getR (pc := 45) dX8_repeatDeeds_45 fl_RX8_59 rfl (gz_shs c_13) er_14 ?_
      refine gz_iload_n (pc := 48) dX8_repeatDeeds_48 rfl rfl ?_
      refine gz_gk hf (fun c_17 hf => ?_)
      refine gz_cVI (av := [.int x1]) (st := [.int y_11, .int y_7, .ref r_5]) (pc := 49) dX8_repeatDeeds_49 kl_RX8_367 rfl (gz_shs c_17) rfl rfl (Nat.le_of_ble_eq_true rfl) (by show d + 5 + 0 + 1 ≤ d + 6; omega) (sX3_doneWith (d := d + 5) (gz_gc hf)) (fun y_16 h_15 hf => ?_)
      refine gz_gk hf (fun c_20 hf => ?_)
      refine gz_cVI (av := [.int y_7, .int y_11, .int y_16]) (st := []) (pc := 52) dX8_repeatDeeds_52 kl_RX8_349 rfl (gz_shs c_20) rfl rfl (Nat.le_of_ble_eq_true rfl) (by show d + 0 + 5 + 1 ≤ d + 6; omega) (sX1_perform (d := d + 0) (gz_gc hf)) (fun y_19 h_18 hf => ?_)
      refine gz_pop (pc := 55) dX8_repeatDeeds_55 rfl ?_
      refine gz_iinc (v := x1 + 1) (lv := [.ref a0, .int (x1 + 1)]) (pc := 56) dX8_repeatDeeds_56 rfl rfl (by decide) rfl ?_
      refine gz_goto (tgt := 13) (pc := 59) dX8_repeatDeeds_59 rfl ?_
      exact ih a0 (x1 + 1) h_18 hf
def fX8_repeatDeeds_0  (a0 : Nat) (h : gz_H) : Option (Unit × gz_H) :=
    gz_ck (gz_sh h a0 8 19) <|
    gz_br (h.2.2.2 a0 9) fun r_2 =>
    gz_br (h.2.2.2 a0 10) fun r_3 =>
    gz_ck (gz_sh h r_2 1 4) <|
    gz_b2 (fX1_become r_2 r_3 h) fun _ h_4 =>
    fX8_repeatDeeds_13 gz_fu a0 (0 : Int32) h_4
set_option maxRecDepth 100000 in
set_option maxHeartbeats 1000000 in
theorem sX8_repeatDeeds_0 {G : gz_G} {d l0 s0 : Nat} {Q : Unit → gz_H → Prop} (a0 : Nat) (h : gz_H) (hf : gz_g (fX8_repeatDeeds_0  a0 h) Q) : gz_Ok G mX8_repeatDeeds (d + 6, l0, s0, 0, 0) 0 [.ref a0, .retAddr 0] [] h (gz_qu Q) := by
  unfold fX8_repeatDeeds_0 at hf
  refine gz_aload_n (pc := 0) dX8_repeatDeeds_0 rfl rfl ?_
  refine gz_gk hf (fun c_1 hf => ?_)
  refine gz_gb hf (fun r_2 er_2 hf => ?_)
  refine gz_getR (pc := 1) dX8_repeatDeeds_1 fl_RX8_70 rfl (gz_shs c_1) er_2 ?_
  refine gz_aload_n (pc := 4) dX8_repeatDeeds_4 rfl rfl ?_
  refine gz_gb hf (fun r_3 er_3 hf => ?_)
  refine gz_getR (pc := 5) dX8_repeatDeeds_5 fl_RX8_74 rfl (gz_shs c_1) er_3 ?_
  refine gz_gk hf (fun c_6 hf => ?_)
  refine gz_cVV (av := [.ref r_3]) (st := []) (pc := 8) dX8_repeatDeeds_8 kl_RX8_358 rfl (gz_shs c_6) rfl rfl (Nat.le_of_ble_eq_true rfl) (by show d + 3 + 2 + 1 ≤ d + 6; omega) (sX1_become (d := d + 3) (gz_gc hf)) (fun _ h_4 hf => ?_)
  refine gz_iconst (v := (0 : Int32)) (pc := 11) dX8_repeatDeeds_11 rfl ?_
  refine gz_istore_n (lv := [.ref a0, .int (0 : Int32)]) (pc := 12) dX8_repeatDeeds_12 rfl (by decide) rfl ?_
  exact sX8_repeatDeeds_13 gz_fu a0 (0 : Int32) h_4 hf
def fX8_repeatDeeds (a0 : Nat) (h : gz_H) : Option (Unit × gz_H) := fX8_repeatDeeds_0 a0 h
theorem sX8_repeatDeeds {G : gz_G} {d : Nat} {a0 : Nat} {h : gz_H} {Q : Unit → gz_H → Prop} (hf : gz_g (fX8_repeatDeeds a0 h) Q) : gz_Cl G mX8_repeatDeeds (d + 6) 0 0 [.ref a0] h (gz_qu Q) := gz_cl_of (lo := [.ref a0, .retAddr 0]) (by decide) rfl rfl (Nat.le_of_ble_eq_true rfl) (sX8_repeatDeeds_0 a0 h hf)
theorem dX8_flock_0 : decode cX8_flock 0 = .ok (.aload_n 0, 1) := by decide +kernel
theorem dX8_flock_1 : decode cX8_flock 1 = .ok (.getfield 18, 3) := by decide +kernel
theorem dX8_flock_4 : decode cX8_flock 4 = .ok (.iload_n 1, 1) := by decide +kernel
theorem dX8_flock_5 : decode cX8_flock 5 = .ok (.invokevirtual 118, 3) := by decide +kernel
theorem dX8_flock_8 : decode cX8_flock 8 = .ok (.ifCond .ne 5, 3) := by decide +kernel
theorem dX8_flock_11 : decode cX8_flock 11 = .ok (.iconst (-1), 1) := by decide +kernel
theorem dX8_flock_12 : decode cX8_flock 12 = .ok (.ireturn, 1) := by decide +kernel
theorem dX8_flock_13 : decode cX8_flock 13 = .ok (.aload_n 0, 1) := by decide +kernel
theorem dX8_flock_14 : decode cX8_flock 14 = .ok (.getfield 18, 3) := by decide +kernel
theorem dX8_flock_17 : decode cX8_flock 17 = .ok (.iload_n 1, 1) := by decide +kernel
theorem dX8_flock_18 : decode cX8_flock 18 = .ok (.invokevirtual 122, 3) := by decide +kernel
theorem dX8_flock_21 : decode cX8_flock 21 = .ok (.ifCond .ne 12, 3) := by decide +kernel
theorem dX8_flock_24 : decode cX8_flock 24 = .ok (.aload_n 0, 1) := by decide +kernel
theorem dX8_flock_25 : decode cX8_flock 25 = .ok (.getfield 31, 3) := by decide +kernel
theorem dX8_flock_28 : decode cX8_flock 28 = .ok (.iconst 1, 1) := by decide +kernel
theorem dX8_flock_29 : decode cX8_flock 29 = .ok (.invokevirtual 125, 3) := by decide +kernel
theorem dX8_flock_32 : decode cX8_flock 32 = .ok (.ireturn, 1) := by decide +kernel
theorem dX8_flock_33 : decode cX8_flock 33 = .ok (.aload_n 0, 1) := by decide +kernel
theorem dX8_flock_34 : decode cX8_flock 34 = .ok (.getfield 24, 3) := by decide +kernel
theorem dX8_flock_37 : decode cX8_flock 37 = .ok (.aload_n 0, 1) := by decide +kernel
theorem dX8_flock_38 : decode cX8_flock 38 = .ok (.getfield 18, 3) := by decide +kernel
theorem dX8_flock_41 : decode cX8_flock 41 = .ok (.getfield 111, 3) := by decide +kernel
theorem dX8_flock_44 : decode cX8_flock 44 = .ok (.iload_n 1, 1) := by decide +kernel
theorem dX8_flock_45 : decode cX8_flock 45 = .ok (.aaload, 1) := by decide +kernel
theorem dX8_flock_46 : decode cX8_flock 46 = .ok (.aload_n 0, 1) := by decide +kernel
theorem dX8_flock_47 : decode cX8_flock 47 = .ok (.getfield 18, 3) := by decide +kernel
theorem dX8_flock_50 : decode cX8_flock 50 = .ok (.getfield 129, 3) := by decide +kernel
theorem dX8_flock_53 : decode cX8_flock 53 = .ok (.iload_n 1, 1) := by decide +kernel
theorem dX8_flock_54 : decode cX8_flock 54 = .ok (.iaload, 1) := by decide +kernel
theorem dX8_flock_55 : decode cX8_flock 55 = .ok (.aload_n 0, 1) := by decide +kernel
theorem dX8_flock_56 : decode cX8_flock 56 = .ok (.getfield 77, 3) := by decide +kernel
theorem dX8_flock_59 : decode cX8_flock 59 = .ok (.invokevirtual 142, 3) := by decide +kernel
theorem dX8_flock_62 : decode cX8_flock 62 = .ok (.bipush (-9), 2) := by decide +kernel
theorem dX8_flock_64 : decode cX8_flock 64 = .ok (.if_icmp .eq 6, 3) := by decide +kernel
theorem dX8_flock_67 : decode cX8_flock 67 = .ok (.bipush (-4), 2) := by decide +kernel
theorem dX8_flock_69 : decode cX8_flock 69 = .ok (.ireturn, 1) := by decide +kernel
theorem dX8_flock_70 : decode cX8_flock 70 = .ok (.aload_n 0, 1) := by decide +kernel
theorem dX8_flock_71 : decode cX8_flock 71 = .ok (.getfield 77, 3) := by decide +kernel
theorem dX8_flock_74 : decode cX8_flock 74 = .ok (.astore_n 2, 1) := by decide +kernel
theorem dX8_flock_75 : decode cX8_flock 75 = .ok (.aload_n 0, 1) := by decide +kernel
theorem dX8_flock_76 : decode cX8_flock 76 = .ok (.aload_n 0, 1) := by decide +kernel
theorem dX8_flock_77 : decode cX8_flock 77 = .ok (.getfield 74, 3) := by decide +kernel
theorem dX8_flock_80 : decode cX8_flock 80 = .ok (.putfield 77, 3) := by decide +kernel
theorem dX8_flock_83 : decode cX8_flock 83 = .ok (.aload_n 0, 1) := by decide +kernel
theorem dX8_flock_84 : decode cX8_flock 84 = .ok (.aload_n 2, 1) := by decide +kernel
theorem dX8_flock_85 : decode cX8_flock 85 = .ok (.putfield 74, 3) := by decide +kernel
theorem dX8_flock_88 : decode cX8_flock 88 = .ok (.aload_n 0, 1) := by decide +kernel
theorem dX8_flock_89 : decode cX8_flock 89 = .ok (.getfield 59, 3) := by decide +kernel
theorem dX8_flock_92 : decode cX8_flock 92 = .ok (.iconst 0, 1) := by decide +kernel
theorem dX8_flock_93 : decode cX8_flock 93 = .ok (.putfield 99, 3) := by decide +kernel
theorem dX8_flock_96 : decode cX8_flock 96 = .ok (.iconst 0, 1) := by decide +kernel
theorem dX8_flock_97 : decode cX8_flock 97 = .ok (.istore_n 3, 1) := by decide +kernel
theorem dX8_flock_98 : decode cX8_flock 98 = .ok (.iload_n 3, 1) := by decide +kernel
theorem dX8_flock_99 : decode cX8_flock 99 = .ok (.iconst 3, 1) := by decide +kernel
theorem dX8_flock_100 : decode cX8_flock 100 = .ok (.if_icmp .ge 19, 3) := by decide +kernel
theorem dX8_flock_103 : decode cX8_flock 103 = .ok (.aload_n 0, 1) := by decide +kernel
theorem dX8_flock_104 : decode cX8_flock 104 = .ok (.getfield 63, 3) := by decide +kernel
theorem dX8_flock_107 : decode cX8_flock 107 = .ok (.iload_n 3, 1) := by decide +kernel
theorem dX8_flock_108 : decode cX8_flock 108 = .ok (.aaload, 1) := by decide +kernel
theorem dX8_flock_109 : decode cX8_flock 109 = .ok (.iconst (-1), 1) := by decide +kernel
theorem dX8_flock_110 : decode cX8_flock 110 = .ok (.putfield 99, 3) := by decide +kernel
theorem dX8_flock_113 : decode cX8_flock 113 = .ok (.iinc 3 1, 3) := by decide +kernel
theorem dX8_flock_116 : decode cX8_flock 116 = .ok (.goto (-18), 3) := by decide +kernel
theorem dX8_flock_119 : decode cX8_flock 119 = .ok (.aload_n 0, 1) := by decide +kernel
theorem dX8_flock_120 : decode cX8_flock 120 = .ok (.invokevirtual 146, 3) := by decide +kernel
theorem dX8_flock_123 : decode cX8_flock 123 = .ok (.aload_n 0, 1) := by decide +kernel
theorem dX8_flock_124 : decode cX8_flock 124 = .ok (.getfield 70, 3) := by decide +kernel
theorem dX8_flock_127 : decode cX8_flock 127 = .ok (.getfield 149, 3) := by decide +kernel
theorem dX8_flock_130 : decode cX8_flock 130 = .ok (.ireturn, 1) := by decide +kernel
def fX8_flock_98  : Nat → Nat → Int32 → gz_H → Option (Int32 × gz_H)
  | 0, _, _, _ => none
  | n + 1, a0, x3, h =>
    if (3 : Int32) ≤ x3 then (
     gz_ck (gz_sh h a0 8 19) <|
     gz_b2 (fX8_repeatDeeds a0 h) fun _ h_2 =>
     gz_ck (gz_sh h_2 a0 8 19) <|
     gz_br (h_2.2.2.2 a0 9) fun r_6 =>
     gz_ck (gz_sh h_2 r_6 1 4) <|
     some (h_2.2.1 r_6 3, h_2)
    ) else (
     gz_ck (gz_sh h a0 8 19) <|
     gz_br (h.2.2.2 a0 8) fun r_9 =>
     gz_ck (gz_inb h r_9 12 x3) <|
     gz_br (h.2.2.2 r_9 x3.toNatClampNeg) fun r_11 =>
     gz_ck (gz_sh h r_11 3 2) <|
     gz_lt (uI h r_11 1 (-1 : Int32)) fun h_13 =>
     fX8_flock_98 n a0 (x3 + 1) h_13
    )
set_option maxRecDepth 100000 in
set_option maxHeartbeats 1000000 in
theorem sX8_flock_98 {G : gz_G} {d l0 s0 : Nat} {Q : Int32 → gz_H → Prop} : ∀ (n : Nat) (a0 : Nat) (x3 : Int32) (h : gz_H), gz_g (fX8_flock_98  n a0 x3 h) Q → gz_Ok G mX8_flock (d + 7, l0, s0, 0, 0) 98 [.ref a0, .retAddr 0, .retAddr 0, .int x3] [] h (gz_qi Q) := by
  intro n
  induction n with
  | zero => intro a0 x3 h hf; exact False.elim hf
  | succ n ih =>
    intro a0 x3 h hf
    rw [fX8_flock_98] at hf
    refine gz_iload_n (pc := 98) dX8_flock_98 rfl rfl ?_
    refine gz_iconst (v := (3 : Int32)) (pc := 99) dX8_flock_99 rfl ?_
    refine gz_icmp_ge (tgt := 119) (pc := 100) dX8_flock_100 rfl (fun c_1 => ?_) (fun c_1 => ?_)
    · have hf := gz_gT hf c_1
      refine gz_aload_n (pc := 119) dX8_flock_119 rfl rfl ?_
      refine gz_gk hf (fun c_4 hf => ?_)
      refine gz_cVV (av := []) (st := []) (pc := 120) dX8_flock_120 kl_RX8_146 rfl (gz_shs c_4) rfl rfl (Nat.le_of_ble_eq_true rfl) (by show d + 0 + 6 + 1 ≤ d + 7; omega) (sX8_repeatDeeds (d := d + 0) (gz_gc hf)) (fun _ h_2 hf => ?_)
      refine gz_aload_n (pc := 123) dX8_flock_123 rfl rfl ?_
      refine gz_gk hf (fun c_5 hf => ?_)
      refine gz_gb hf (fun r_6 er_6 hf => ?_)
      refine gz_getR (pc := 124) dX8_flock_124 fl_RX8_70 rfl (gz_shs c_5) er_6 ?_
      refine gz_gk hf (fun c_7 hf => ?_)
      refine gz_getI (pc := 127) dX8_flock_127 fl_RX8_149 rfl (gz_shs c_7) ?_
      exact gz_irt (pc := 130) dX8_flock_130 rfl rfl hf
    · have hf := gz_gF hf c_1
      refine gz_aload_n (pc := 103) dX8_flock_103 rfl rfl ?_
      refine gz_gk hf (fun c_8 hf => ?_)
      refine gz_gb hf (fun r_9 er_9 hf => ?_)
      refine gz_getR (pc := 104) dX8_flock_104 fl_RX8_63 rfl (gz_shs c_8) er_9 ?_
      refine gz_iload_n (pc := 107) dX8_flock_107 rfl rfl ?_
      refine gz_gk hf (fun c_10 hf => ?_)
      refine gz_gb hf (fun r_11 er_11 hf => ?_)
      refine gz_aald (Or.inr (Or.inl rfl)) (pc := 108) dX8_flock_108 c_10 er_11 ?_
      refine gz_iconst (v := (-1 : Int32)) (pc := 109) dX8_flock_109 rfl ?_
      refine gz_gk hf (fun c_12 hf => ?_)
      refine gz_putI (pc := 110) dX8_flock_110 fw_X8_flock_99 rfl rfl rfl (gz_shs c_12) ?_
      refine gz_nmH (fun h_13 eh_13 => ?_)
      have hf := gz_gl eh_13 hf
      refine gz_iinc (v := x3 + 1) (lv := [.ref a0, .retAddr 0, .retAddr 0, .int (x3 + 1)]) (pc := 113) dX8_flock_113 rfl rfl (by decide) rfl ?_
      refine gz_goto (tgt := 98) (pc := 116) dX8_flock_116 rfl ?_
      exact ih a0 (x3 + 1) h_13 hf
def fX8_flock_0  (a0 : Nat) (x1 : Int32) (h : gz_H) : Option (Int32 × gz_H) :=
    gz_ck (gz_sh h a0 8 19) <|
    gz_br (h.2.2.2 a0 1) fun r_2 =>
    gz_ck (gz_sh h r_2 7 3) <|
    gz_b2 (fX7_knows r_2 x1 h) fun y_4 h_3 =>
    if y_4 = 0 then (
     some ((-1 : Int32), h_3)
    ) else (
     gz_ck (gz_sh h_3 a0 8 19) <|
     gz_br (h_3.2.2.2 a0 1) fun r_8 =>
     gz_ck (gz_sh h_3 r_8 7 3) <|
     gz_b2 (fX7_has r_8 x1 h_3) fun y_10 h_9 =>
     if y_10 = 0 then (
      gz_ck (gz_sh h_9 a0 8 19) <|
      gz_br (h_9.2.2.2 a0 3) fun r_38 =>
      gz_ck (gz_sh h_9 r_38 0 2) <|
      gz_b2 (fX0_answer r_38 (1 : Int32) h_9) fun y_40 h_39 =>
      some (y_40, h_39)
     ) else (
      gz_ck (gz_sh h_9 a0 8 19) <|
      gz_br (h_9.2.2.2 a0 2) fun r_14 =>
      gz_br (h_9.2.2.2 a0 1) fun r_15 =>
      gz_ck (gz_sh h_9 r_15 7 3) <|
      gz_br (h_9.2.2.2 r_15 1) fun r_17 =>
      gz_ck (gz_inb h_9 r_17 13 x1) <|
      gz_br (h_9.2.2.2 r_17 x1.toNatClampNeg) fun r_19 =>
      gz_br (h_9.2.2.2 r_15 2) fun r_20 =>
      gz_ck (gz_inb h_9 r_20 10 x1) <|
      gz_br (h_9.2.2.2 a0 11) fun r_22 =>
      gz_ck (gz_sh h_9 r_14 5 4) <|
      gz_b2 (fX5_readFlock r_14 r_19 (h_9.2.1 r_20 x1.toNatClampNeg) r_22 h_9) fun y_24 h_23 =>
      if y_24 = (-9 : Int32) then (
       gz_ck (gz_sh h_23 a0 8 19) <|
       gz_br (h_23.2.2.2 a0 11) fun r_28 =>
       gz_br (h_23.2.2.2 a0 10) fun r_29 =>
       gz_lt (uR h_23 a0 11 (some r_29)) fun h_30 =>
       gz_ck (gz_sh h_30 a0 8 19) <|
       gz_lt (uR h_30 a0 10 (some r_28)) fun h_32 =>
       gz_ck (gz_sh h_32 a0 8 19) <|
       gz_br (h_32.2.2.2 a0 7) fun r_34 =>
       gz_ck (gz_sh h_32 r_34 3 2) <|
       gz_lt (uI h_32 r_34 1 (0 : Int32)) fun h_36 =>
       fX8_flock_98 gz_fu a0 (0 : Int32) h_36
      ) else (
       some ((-4 : Int32), h_23)
      )
     )
    )
set_option maxRecDepth 100000 in
set_option maxHeartbeats 1000000 in
theorem sX8_flock_0 {G : gz_G} {d l0 s0 : Nat} {Q : Int32 → gz_H → Prop} (a0 : Nat) (x1 : Int32) (h : gz_H) (hf : gz_g (fX8_flock_0  a0 x1 h) Q) : gz_Ok G mX8_flock (d + 7, l0, s0, 0, 0) 0 [.ref a0, .int x1, .retAddr 0, .retAddr 0] [] h (gz_qi Q) := by
  unfold fX8_flock_0 at hf
  refine gz_aload_n (pc := 0) dX8_flock_0 rfl rfl ?_
  refine gz_gk hf (fun c_1 hf => ?_)
  refine gz_gb hf (fun r_2 er_2 hf => ?_)
  refine gz_getR (pc := 1) dX8_flock_1 fl_RX8_18 rfl (gz_shs c_1) er_2 ?_
  refine gz_iload_n (pc := 4) dX8_flock_4 rfl rfl ?_
  refine gz_gk hf (fun c_5 hf => ?_)
  refine gz_cVI (av := [.int x1]) (st := []) (pc := 5) dX8_flock_5 kl_RX8_118 rfl (gz_shs c_5) rfl rfl (Nat.le_of_ble_eq_true rfl) (by show d + 6 + 0 + 1 ≤ d + 7; omega) (sX7_knows (d := d + 6) (gz_gc hf)) (fun y_4 h_3 hf => ?_)
  refine gz_if_ne (tgt := 13) (pc := 8) dX8_flock_8 rfl (fun c_6 => ?_) (fun c_6 => ?_)
  · have hf := gz_gF hf c_6
    refine gz_aload_n (pc := 13) dX8_flock_13 rfl rfl ?_
    refine gz_gk hf (fun c_7 hf => ?_)
    refine gz_gb hf (fun r_8 er_8 hf => ?_)
    refine gz_getR (pc := 14) dX8_flock_14 fl_RX8_18 rfl (gz_shs c_7) er_8 ?_
    refine gz_iload_n (pc := 17) dX8_flock_17 rfl rfl ?_
    refine gz_gk hf (fun c_11 hf => ?_)
    refine gz_cVI (av := [.int x1]) (st := []) (pc := 18) dX8_flock_18 kl_RX8_122 rfl (gz_shs c_11) rfl rfl (Nat.le_of_ble_eq_true rfl) (by show d + 6 + 0 + 1 ≤ d + 7; omega) (sX7_has (d := d + 6) (gz_gc hf)) (fun y_10 h_9 hf => ?_)
    refine gz_if_ne (tgt := 33) (pc := 21) dX8_flock_21 rfl (fun c_12 => ?_) (fun c_12 => ?_)
    · have hf := gz_gF hf c_12
      refine gz_aload_n (pc := 33) dX8_flock_33 rfl rfl ?_
      refine gz_gk hf (fun c_13 hf => ?_)
      refine gz_gb hf (fun r_14 er_14 hf => ?_)
      refine gz_getR (pc := 34) dX8_flock_34 fl_RX8_24 rfl (gz_shs c_13) er_14 ?_
      refine gz_aload_n (pc := 37) dX8_flock_37 rfl rfl ?_
      refine gz_gb hf (fun r_15 er_15 hf => ?_)
      refine gz_getR (pc := 38) dX8_flock_38 fl_RX8_18 rfl (gz_shs c_13) er_15 ?_
      refine gz_gk hf (fun c_16 hf => ?_)
      refine gz_gb hf (fun r_17 er_17 hf => ?_)
      refine gz_getR (pc := 41) dX8_flock_41 fl_RX8_111 rfl (gz_shs c_16) er_17 ?_
      refine gz_iload_n (pc := 44) dX8_flock_44 rfl rfl ?_
      refine gz_gk hf (fun c_18 hf => ?_)
      refine gz_gb hf (fun r_19 er_19 hf => ?_)
      refine gz_aald (Or.inr (Or.inr rfl)) (pc := 45) dX8_flock_45 c_18 er_19 ?_
      refine gz_aload_n (pc := 46) dX8_flock_46 rfl rfl ?_
      refine gz_getR (pc := 47) dX8_flock_47 fl_RX8_18 rfl (gz_shs c_13) er_15 ?_
      refine gz_gb hf (fun r_20 er_20 hf => ?_)
      refine gz_getR (pc := 50) dX8_flock_50 fl_RX8_129 rfl (gz_shs c_16) er_20 ?_
      refine gz_iload_n (pc := 53) dX8_flock_53 rfl rfl ?_
      refine gz_gk hf (fun c_21 hf => ?_)
      refine gz_iald (pc := 54) dX8_flock_54 c_21 ?_
      refine gz_aload_n (pc := 55) dX8_flock_55 rfl rfl ?_
      refine gz_gb hf (fun r_22 er_22 hf => ?_)
      refine gz_getR (pc := 56) dX8_flock_56 fl_RX8_77 rfl (gz_shs c_13) er_22 ?_
      refine gz_gk hf (fun c_25 hf => ?_)
      refine gz_cVI (av := [.ref r_19, .int (h_9.2.1 r_20 x1.toNatClampNeg), .ref r_22]) (st := []) (pc := 59) dX8_flock_59 kl_RX8_142 rfl (gz_shs c_25) rfl rfl (Nat.le_of_ble_eq_true rfl) (by show d + 3 + 3 + 1 ≤ d + 7; omega) (sX5_readFlock (d := d + 3) (gz_gc hf)) (fun y_24 h_23 hf => ?_)
      refine gz_bipush (v := (-9 : Int32)) (pc := 62) dX8_flock_62 rfl ?_
      refine gz_icmp_eq (tgt := 70) (pc := 64) dX8_flock_64 rfl (fun c_26 => ?_) (fun c_26 => ?_)
      · have hf := gz_gT hf c_26
        refine gz_aload_n (pc := 70) dX8_flock_70 rfl rfl ?_
        refine gz_gk hf (fun c_27 hf => ?_)
        refine gz_gb hf (fun r_28 er_28 hf => ?_)
        refine gz_getR (pc := 71) dX8_flock_71 fl_RX8_77 rfl (gz_shs c_27) er_28 ?_
        refine gz_astore_n (lv := [.ref a0, .int x1, .ref r_28, .retAddr 0]) (pc := 74) dX8_flock_74 rfl (by decide) rfl ?_
        refine gz_aload_n (pc := 75) dX8_flock_75 rfl rfl ?_
        refine gz_aload_n (pc := 76) dX8_flock_76 rfl rfl ?_
        refine gz_gb hf (fun r_29 er_29 hf => ?_)
        refine gz_getR (pc := 77) dX8_flock_77 fl_RX8_74 rfl (gz_shs c_27) er_29 ?_
        refine gz_putR (pc := 80) dX8_flock_80 fw_X8_flock_77 rfl (gz_shs c_27) ?_
        refine gz_nmH (fun h_30 eh_30 => ?_)
        have hf := gz_gl eh_30 hf
        refine gz_aload_n (pc := 83) dX8_flock_83 rfl rfl ?_
        refine gz_aload_n (pc := 84) dX8_flock_84 rfl rfl ?_
        refine gz_gk hf (fun c_31 hf => ?_)
        refine gz_putR (pc := 85) dX8_flock_85 fw_X8_flock_74 rfl (gz_shs c_31) ?_
        refine gz_nmH (fun h_32 eh_32 => ?_)
        have hf := gz_gl eh_32 hf
        refine gz_aload_n (pc := 88) dX8_flock_88 rfl rfl ?_
        refine gz_gk hf (fun c_33 hf => ?_)
        refine gz_gb hf (fun r_34 er_34 hf => ?_)
        refine gz_getR (pc := 89) dX8_flock_89 fl_RX8_59 rfl (gz_shs c_33) er_34 ?_
        refine gz_iconst (v := (0 : Int32)) (pc := 92) dX8_flock_92 rfl ?_
        refine gz_gk hf (fun c_35 hf => ?_)
        refine gz_putI (pc := 93) dX8_flock_93 fw_X8_flock_99 rfl rfl rfl (gz_shs c_35) ?_
        refine gz_nmH (fun h_36 eh_36 => ?_)
        have hf := gz_gl eh_36 hf
        refine gz_iconst (v := (0 : Int32)) (pc := 96) dX8_flock_96 rfl ?_
        refine gz_istore_n (lv := [.ref a0, .int x1, .ref r_28, .int (0 : Int32)]) (pc := 97) dX8_flock_97 rfl (by decide) rfl ?_
        refine gz_fg (lv := [.ref a0, .retAddr 0, .retAddr 0, .int (0 : Int32)]) ⟨Or.inr rfl, ⟨Or.inl rfl, ⟨Or.inl rfl, ⟨Or.inr rfl, trivial⟩⟩⟩⟩ ?_
        exact sX8_flock_98 gz_fu a0 (0 : Int32) h_36 hf
      · have hf := gz_gF hf c_26
        refine gz_bipush (v := (-4 : Int32)) (pc := 67) dX8_flock_67 rfl ?_
        exact gz_irt (pc := 69) dX8_flock_69 rfl rfl hf
    · have hf := gz_gT hf c_12
      refine gz_aload_n (pc := 24) dX8_flock_24 rfl rfl ?_
      refine gz_gk hf (fun c_37 hf => ?_)
      refine gz_gb hf (fun r_38 er_38 hf => ?_)
      refine gz_getR (pc := 25) dX8_flock_25 fl_RX8_31 rfl (gz_shs c_37) er_38 ?_
      refine gz_iconst (v := (1 : Int32)) (pc := 28) dX8_flock_28 rfl ?_
      refine gz_gk hf (fun c_41 hf => ?_)
      refine gz_cVI (av := [.int (1 : Int32)]) (st := []) (pc := 29) dX8_flock_29 kl_RX8_125 rfl (gz_shs c_41) rfl rfl (Nat.le_of_ble_eq_true rfl) (by show d + 6 + 0 + 1 ≤ d + 7; omega) (sX0_answer (d := d + 6) (gz_gc hf)) (fun y_40 h_39 hf => ?_)
      exact gz_irt (pc := 32) dX8_flock_32 rfl rfl hf
  · have hf := gz_gT hf c_6
    refine gz_iconst (v := (-1 : Int32)) (pc := 11) dX8_flock_11 rfl ?_
    exact gz_irt (pc := 12) dX8_flock_12 rfl rfl hf
def fX8_flock (a0 : Nat) (x1 : Int32) (h : gz_H) : Option (Int32 × gz_H) := fX8_flock_0 a0 x1 h
theorem sX8_flock {G : gz_G} {d : Nat} {a0 : Nat} {x1 : Int32} {h : gz_H} {Q : Int32 → gz_H → Prop} (hf : gz_g (fX8_flock a0 x1 h) Q) : gz_Cl G mX8_flock (d + 7) 0 0 [.ref a0, .int x1] h (gz_qi Q) := gz_cl_of (lo := [.ref a0, .int x1, .retAddr 0, .retAddr 0]) (by decide) rfl rfl (Nat.le_of_ble_eq_true rfl) (sX8_flock_0 a0 x1 h hf)
theorem dX8_goose_0 : decode cX8_goose 0 = .ok (.aload_n 0, 1) := by decide +kernel
theorem dX8_goose_1 : decode cX8_goose 1 = .ok (.getfield 70, 3) := by decide +kernel
theorem dX8_goose_4 : decode cX8_goose 4 = .ok (.iload_n 1, 1) := by decide +kernel
theorem dX8_goose_5 : decode cX8_goose 5 = .ok (.invokevirtual 150, 3) := by decide +kernel
theorem dX8_goose_8 : decode cX8_goose 8 = .ok (.ifCond .eq 13, 3) := by decide +kernel
theorem dX8_goose_11 : decode cX8_goose 11 = .ok (.iload_n 2, 1) := by decide +kernel
theorem dX8_goose_12 : decode cX8_goose 12 = .ok (.ifCond .lt 9, 3) := by decide +kernel
theorem dX8_goose_15 : decode cX8_goose 15 = .ok (.iload_n 2, 1) := by decide +kernel
theorem dX8_goose_16 : decode cX8_goose 16 = .ok (.bipush 7, 2) := by decide +kernel
theorem dX8_goose_18 : decode cX8_goose 18 = .ok (.if_icmp .lt 5, 3) := by decide +kernel
theorem dX8_goose_21 : decode cX8_goose 21 = .ok (.iconst (-1), 1) := by decide +kernel
theorem dX8_goose_22 : decode cX8_goose 22 = .ok (.ireturn, 1) := by decide +kernel
theorem dX8_goose_23 : decode cX8_goose 23 = .ok (.aload_n 0, 1) := by decide +kernel
theorem dX8_goose_24 : decode cX8_goose 24 = .ok (.aload_n 0, 1) := by decide +kernel
theorem dX8_goose_25 : decode cX8_goose 25 = .ok (.getfield 70, 3) := by decide +kernel
theorem dX8_goose_28 : decode cX8_goose 28 = .ok (.getfield 153, 3) := by decide +kernel
theorem dX8_goose_31 : decode cX8_goose 31 = .ok (.iload_n 1, 1) := by decide +kernel
theorem dX8_goose_32 : decode cX8_goose 32 = .ok (.aaload, 1) := by decide +kernel
theorem dX8_goose_33 : decode cX8_goose 33 = .ok (.iload_n 2, 1) := by decide +kernel
theorem dX8_goose_34 : decode cX8_goose 34 = .ok (.invokevirtual 157, 3) := by decide +kernel
theorem dX8_goose_37 : decode cX8_goose 37 = .ok (.putfield 115, 3) := by decide +kernel
theorem dX8_goose_40 : decode cX8_goose 40 = .ok (.iconst 1, 1) := by decide +kernel
theorem dX8_goose_41 : decode cX8_goose 41 = .ok (.ireturn, 1) := by decide +kernel
def fX8_goose_0  (a0 : Nat) (x1 : Int32) (x2 : Int32) (h : gz_H) : Option (Int32 × gz_H) :=
    gz_ck (gz_sh h a0 8 19) <|
    gz_br (h.2.2.2 a0 9) fun r_2 =>
    gz_ck (gz_sh h r_2 1 4) <|
    gz_b2 (fX1_hasGoose r_2 x1 h) fun y_4 h_3 =>
    if y_4 = 0 then (
     some ((-1 : Int32), h_3)
    ) else (
     if x2 < 0 then (
      some ((-1 : Int32), h_3)
     ) else (
      if x2 < (7 : Int32) then (
       gz_ck (gz_sh h_3 a0 8 19) <|
       gz_br (h_3.2.2.2 a0 9) fun r_10 =>
       gz_ck (gz_sh h_3 r_10 1 4) <|
       gz_br (h_3.2.2.2 r_10 1) fun r_12 =>
       gz_ck (gz_inb h_3 r_12 11 x1) <|
       gz_br (h_3.2.2.2 r_12 x1.toNatClampNeg) fun r_14 =>
       gz_ck (gz_sh h_3 r_14 2 6) <|
       gz_b2 (fX2_answer r_14 x2 h_3) fun y_16 h_15 =>
       gz_ck (gz_sh h_15 a0 8 19) <|
       gz_lt (uI h_15 a0 18 y_16) fun h_19 =>
       some ((1 : Int32), h_19)
      ) else (
       some ((-1 : Int32), h_3)
      )
     )
    )
set_option maxRecDepth 100000 in
set_option maxHeartbeats 1000000 in
theorem sX8_goose_0 {G : gz_G} {d l0 s0 : Nat} {Q : Int32 → gz_H → Prop} (a0 : Nat) (x1 : Int32) (x2 : Int32) (h : gz_H) (hf : gz_g (fX8_goose_0  a0 x1 x2 h) Q) : gz_Ok G mX8_goose (d + 2, l0, s0, 0, 0) 0 [.ref a0, .int x1, .int x2] [] h (gz_qi Q) := by
  unfold fX8_goose_0 at hf
  refine gz_aload_n (pc := 0) dX8_goose_0 rfl rfl ?_
  refine gz_gk hf (fun c_1 hf => ?_)
  refine gz_gb hf (fun r_2 er_2 hf => ?_)
  refine gz_getR (pc := 1) dX8_goose_1 fl_RX8_70 rfl (gz_shs c_1) er_2 ?_
  refine gz_iload_n (pc := 4) dX8_goose_4 rfl rfl ?_
  refine gz_gk hf (fun c_5 hf => ?_)
  refine gz_cVI (av := [.int x1]) (st := []) (pc := 5) dX8_goose_5 kl_RX8_150 rfl (gz_shs c_5) rfl rfl (Nat.le_of_ble_eq_true rfl) (by show d + 1 + 0 + 1 ≤ d + 2; omega) (sX1_hasGoose (d := d + 1) (gz_gc hf)) (fun y_4 h_3 hf => ?_)
  refine gz_if_eq (tgt := 21) (pc := 8) dX8_goose_8 rfl (fun c_6 => ?_) (fun c_6 => ?_)
  · have hf := gz_gT hf c_6
    refine gz_iconst (v := (-1 : Int32)) (pc := 21) dX8_goose_21 rfl ?_
    exact gz_irt (pc := 22) dX8_goose_22 rfl rfl hf
  · have hf := gz_gF hf c_6
    refine gz_iload_n (pc := 11) dX8_goose_11 rfl rfl ?_
    refine gz_if_lt (tgt := 21) (pc := 12) dX8_goose_12 rfl (fun c_7 => ?_) (fun c_7 => ?_)
    · have hf := gz_gT hf c_7
      refine gz_iconst (v := (-1 : Int32)) (pc := 21) dX8_goose_21 rfl ?_
      exact gz_irt (pc := 22) dX8_goose_22 rfl rfl hf
    · have hf := gz_gF hf c_7
      refine gz_iload_n (pc := 15) dX8_goose_15 rfl rfl ?_
      refine gz_bipush (v := (7 : Int32)) (pc := 16) dX8_goose_16 rfl ?_
      refine gz_icmp_lt (tgt := 23) (pc := 18) dX8_goose_18 rfl (fun c_8 => ?_) (fun c_8 => ?_)
      · have hf := gz_gT hf c_8
        refine gz_aload_n (pc := 23) dX8_goose_23 rfl rfl ?_
        refine gz_aload_n (pc := 24) dX8_goose_24 rfl rfl ?_
        refine gz_gk hf (fun c_9 hf => ?_)
        refine gz_gb hf (fun r_10 er_10 hf => ?_)
        refine gz_getR (pc := 25) dX8_goose_25 fl_RX8_70 rfl (gz_shs c_9) er_10 ?_
        refine gz_gk hf (fun c_11 hf => ?_)
        refine gz_gb hf (fun r_12 er_12 hf => ?_)
        refine gz_getR (pc := 28) dX8_goose_28 fl_RX8_153 rfl (gz_shs c_11) er_12 ?_
        refine gz_iload_n (pc := 31) dX8_goose_31 rfl rfl ?_
        refine gz_gk hf (fun c_13 hf => ?_)
        refine gz_gb hf (fun r_14 er_14 hf => ?_)
        refine gz_aald (Or.inl rfl) (pc := 32) dX8_goose_32 c_13 er_14 ?_
        refine gz_iload_n (pc := 33) dX8_goose_33 rfl rfl ?_
        refine gz_gk hf (fun c_17 hf => ?_)
        refine gz_cVI (av := [.int x2]) (st := [.ref a0]) (pc := 34) dX8_goose_34 kl_RX8_157 rfl (gz_shs c_17) rfl rfl (Nat.le_of_ble_eq_true rfl) (by show d + 0 + 1 + 1 ≤ d + 2; omega) (sX2_answer (d := d + 0) (gz_gc hf)) (fun y_16 h_15 hf => ?_)
        refine gz_gk hf (fun c_18 hf => ?_)
        refine gz_putI (pc := 37) dX8_goose_37 fw_X8_goose_115 rfl rfl rfl (gz_shs c_18) ?_
        refine gz_nmH (fun h_19 eh_19 => ?_)
        have hf := gz_gl eh_19 hf
        refine gz_iconst (v := (1 : Int32)) (pc := 40) dX8_goose_40 rfl ?_
        exact gz_irt (pc := 41) dX8_goose_41 rfl rfl hf
      · have hf := gz_gF hf c_8
        refine gz_iconst (v := (-1 : Int32)) (pc := 21) dX8_goose_21 rfl ?_
        exact gz_irt (pc := 22) dX8_goose_22 rfl rfl hf
def fX8_goose (a0 : Nat) (x1 : Int32) (x2 : Int32) (h : gz_H) : Option (Int32 × gz_H) := fX8_goose_0 a0 x1 x2 h
theorem sX8_goose {G : gz_G} {d : Nat} {a0 : Nat} {x1 : Int32} {x2 : Int32} {h : gz_H} {Q : Int32 → gz_H → Prop} (hf : gz_g (fX8_goose a0 x1 x2 h) Q) : gz_Cl G mX8_goose (d + 2) 0 0 [.ref a0, .int x1, .int x2] h (gz_qi Q) := gz_cl_of (lo := [.ref a0, .int x1, .int x2]) (by decide) rfl rfl (Nat.le_of_ble_eq_true rfl) (sX8_goose_0 a0 x1 x2 h hf)
theorem dX8_mark_0 : decode cX8_mark 0 = .ok (.aload_n 0, 1) := by decide +kernel
theorem dX8_mark_1 : decode cX8_mark 1 = .ok (.getfield 70, 3) := by decide +kernel
theorem dX8_mark_4 : decode cX8_mark 4 = .ok (.iload_n 1, 1) := by decide +kernel
theorem dX8_mark_5 : decode cX8_mark 5 = .ok (.invokevirtual 150, 3) := by decide +kernel
theorem dX8_mark_8 : decode cX8_mark 8 = .ok (.ifCond .eq 13, 3) := by decide +kernel
theorem dX8_mark_11 : decode cX8_mark 11 = .ok (.iload_n 2, 1) := by decide +kernel
theorem dX8_mark_12 : decode cX8_mark 12 = .ok (.ifCond .le 9, 3) := by decide +kernel
theorem dX8_mark_15 : decode cX8_mark 15 = .ok (.iload_n 2, 1) := by decide +kernel
theorem dX8_mark_16 : decode cX8_mark 16 = .ok (.bipush 6, 2) := by decide +kernel
theorem dX8_mark_18 : decode cX8_mark 18 = .ok (.if_icmp .lt 5, 3) := by decide +kernel
theorem dX8_mark_21 : decode cX8_mark 21 = .ok (.iconst (-1), 1) := by decide +kernel
theorem dX8_mark_22 : decode cX8_mark 22 = .ok (.ireturn, 1) := by decide +kernel
theorem dX8_mark_23 : decode cX8_mark 23 = .ok (.aload_n 0, 1) := by decide +kernel
theorem dX8_mark_24 : decode cX8_mark 24 = .ok (.getfield 70, 3) := by decide +kernel
theorem dX8_mark_27 : decode cX8_mark 27 = .ok (.getfield 153, 3) := by decide +kernel
theorem dX8_mark_30 : decode cX8_mark 30 = .ok (.iload_n 1, 1) := by decide +kernel
theorem dX8_mark_31 : decode cX8_mark 31 = .ok (.aaload, 1) := by decide +kernel
theorem dX8_mark_32 : decode cX8_mark 32 = .ok (.getfield 158, 3) := by decide +kernel
theorem dX8_mark_35 : decode cX8_mark 35 = .ok (.iload_n 2, 1) := by decide +kernel
theorem dX8_mark_36 : decode cX8_mark 36 = .ok (.invokestatic 161, 3) := by decide +kernel
theorem dX8_mark_39 : decode cX8_mark 39 = .ok (.ifCond .ne 12, 3) := by decide +kernel
theorem dX8_mark_42 : decode cX8_mark 42 = .ok (.aload_n 0, 1) := by decide +kernel
theorem dX8_mark_43 : decode cX8_mark 43 = .ok (.getfield 31, 3) := by decide +kernel
theorem dX8_mark_46 : decode cX8_mark 46 = .ok (.iconst 3, 1) := by decide +kernel
theorem dX8_mark_47 : decode cX8_mark 47 = .ok (.invokevirtual 125, 3) := by decide +kernel
theorem dX8_mark_50 : decode cX8_mark 50 = .ok (.ireturn, 1) := by decide +kernel
theorem dX8_mark_51 : decode cX8_mark 51 = .ok (.aload_n 0, 1) := by decide +kernel
theorem dX8_mark_52 : decode cX8_mark 52 = .ok (.getfield 70, 3) := by decide +kernel
theorem dX8_mark_55 : decode cX8_mark 55 = .ok (.iload_n 1, 1) := by decide +kernel
theorem dX8_mark_56 : decode cX8_mark 56 = .ok (.iload_n 2, 1) := by decide +kernel
theorem dX8_mark_57 : decode cX8_mark 57 = .ok (.invokevirtual 165, 3) := by decide +kernel
theorem dX8_mark_60 : decode cX8_mark 60 = .ok (.ireturn, 1) := by decide +kernel
def fX8_mark_0  (a0 : Nat) (x1 : Int32) (x2 : Int32) (h : gz_H) : Option (Int32 × gz_H) :=
    gz_ck (gz_sh h a0 8 19) <|
    gz_br (h.2.2.2 a0 9) fun r_2 =>
    gz_ck (gz_sh h r_2 1 4) <|
    gz_b2 (fX1_hasGoose r_2 x1 h) fun y_4 h_3 =>
    if y_4 = 0 then (
     some ((-1 : Int32), h_3)
    ) else (
     if x2 ≤ 0 then (
      some ((-1 : Int32), h_3)
     ) else (
      if x2 < (6 : Int32) then (
       gz_ck (gz_sh h_3 a0 8 19) <|
       gz_br (h_3.2.2.2 a0 9) fun r_10 =>
       gz_ck (gz_sh h_3 r_10 1 4) <|
       gz_br (h_3.2.2.2 r_10 1) fun r_12 =>
       gz_ck (gz_inb h_3 r_12 11 x1) <|
       gz_br (h_3.2.2.2 r_12 x1.toNatClampNeg) fun r_14 =>
       gz_ck (gz_sh h_3 r_14 2 6) <|
       gz_b2 (fX8_isOf (h_3.2.1 r_14 2) x2 h_3) fun y_17 h_16 =>
       if y_17 = 0 then (
        gz_ck (gz_sh h_16 a0 8 19) <|
        gz_br (h_16.2.2.2 a0 3) fun r_25 =>
        gz_ck (gz_sh h_16 r_25 0 2) <|
        gz_b2 (fX0_answer r_25 (3 : Int32) h_16) fun y_27 h_26 =>
        some (y_27, h_26)
       ) else (
        gz_ck (gz_sh h_16 a0 8 19) <|
        gz_br (h_16.2.2.2 a0 9) fun r_20 =>
        gz_ck (gz_sh h_16 r_20 1 4) <|
        gz_b2 (fX1_markOf r_20 x1 x2 h_16) fun y_22 h_21 =>
        some (y_22, h_21)
       )
      ) else (
       some ((-1 : Int32), h_3)
      )
     )
    )
set_option maxRecDepth 100000 in
set_option maxHeartbeats 1000000 in
theorem sX8_mark_0 {G : gz_G} {d l0 s0 : Nat} {Q : Int32 → gz_H → Prop} (a0 : Nat) (x1 : Int32) (x2 : Int32) (h : gz_H) (hf : gz_g (fX8_mark_0  a0 x1 x2 h) Q) : gz_Ok G mX8_mark (d + 5, l0, s0, 0, 0) 0 [.ref a0, .int x1, .int x2] [] h (gz_qi Q) := by
  unfold fX8_mark_0 at hf
  refine gz_aload_n (pc := 0) dX8_mark_0 rfl rfl ?_
  refine gz_gk hf (fun c_1 hf => ?_)
  refine gz_gb hf (fun r_2 er_2 hf => ?_)
  refine gz_getR (pc := 1) dX8_mark_1 fl_RX8_70 rfl (gz_shs c_1) er_2 ?_
  refine gz_iload_n (pc := 4) dX8_mark_4 rfl rfl ?_
  refine gz_gk hf (fun c_5 hf => ?_)
  refine gz_cVI (av := [.int x1]) (st := []) (pc := 5) dX8_mark_5 kl_RX8_150 rfl (gz_shs c_5) rfl rfl (Nat.le_of_ble_eq_true rfl) (by show d + 4 + 0 + 1 ≤ d + 5; omega) (sX1_hasGoose (d := d + 4) (gz_gc hf)) (fun y_4 h_3 hf => ?_)
  refine gz_if_eq (tgt := 21) (pc := 8) dX8_mark_8 rfl (fun c_6 => ?_) (fun c_6 => ?_)
  · have hf := gz_gT hf c_6
    refine gz_iconst (v := (-1 : Int32)) (pc := 21) dX8_mark_21 rfl ?_
    exact gz_irt (pc := 22) dX8_mark_22 rfl rfl hf
  · have hf := gz_gF hf c_6
    refine gz_iload_n (pc := 11) dX8_mark_11 rfl rfl ?_
    refine gz_if_le (tgt := 21) (pc := 12) dX8_mark_12 rfl (fun c_7 => ?_) (fun c_7 => ?_)
    · have hf := gz_gT hf c_7
      refine gz_iconst (v := (-1 : Int32)) (pc := 21) dX8_mark_21 rfl ?_
      exact gz_irt (pc := 22) dX8_mark_22 rfl rfl hf
    · have hf := gz_gF hf c_7
      refine gz_iload_n (pc := 15) dX8_mark_15 rfl rfl ?_
      refine gz_bipush (v := (6 : Int32)) (pc := 16) dX8_mark_16 rfl ?_
      refine gz_icmp_lt (tgt := 23) (pc := 18) dX8_mark_18 rfl (fun c_8 => ?_) (fun c_8 => ?_)
      · have hf := gz_gT hf c_8
        refine gz_aload_n (pc := 23) dX8_mark_23 rfl rfl ?_
        refine gz_gk hf (fun c_9 hf => ?_)
        refine gz_gb hf (fun r_10 er_10 hf => ?_)
        refine gz_getR (pc := 24) dX8_mark_24 fl_RX8_70 rfl (gz_shs c_9) er_10 ?_
        refine gz_gk hf (fun c_11 hf => ?_)
        refine gz_gb hf (fun r_12 er_12 hf => ?_)
        refine gz_getR (pc := 27) dX8_mark_27 fl_RX8_153 rfl (gz_shs c_11) er_12 ?_
        refine gz_iload_n (pc := 30) dX8_mark_30 rfl rfl ?_
        refine gz_gk hf (fun c_13 hf => ?_)
        refine gz_gb hf (fun r_14 er_14 hf => ?_)
        refine gz_aald (Or.inl rfl) (pc := 31) dX8_mark_31 c_13 er_14 ?_
        refine gz_gk hf (fun c_15 hf => ?_)
        refine gz_getI (pc := 32) dX8_mark_32 fl_RX8_158 rfl (gz_shs c_15) ?_
        refine gz_iload_n (pc := 35) dX8_mark_35 rfl rfl ?_
        refine gz_cSI (av := [.int (h_3.2.1 r_14 2), .int x2]) (st := []) (pc := 36) dX8_mark_36 kl_RX8_161 rfl rfl (Nat.le_of_ble_eq_true rfl) (by show d + 4 + 0 + 1 ≤ d + 5; omega) (sX8_isOf (d := d + 4) (gz_gc hf)) (fun y_17 h_16 hf => ?_)
        refine gz_if_ne (tgt := 51) (pc := 39) dX8_mark_39 rfl (fun c_18 => ?_) (fun c_18 => ?_)
        · have hf := gz_gF hf c_18
          refine gz_aload_n (pc := 51) dX8_mark_51 rfl rfl ?_
          refine gz_gk hf (fun c_19 hf => ?_)
          refine gz_gb hf (fun r_20 er_20 hf => ?_)
          refine gz_getR (pc := 52) dX8_mark_52 fl_RX8_70 rfl (gz_shs c_19) er_20 ?_
          refine gz_iload_n (pc := 55) dX8_mark_55 rfl rfl ?_
          refine gz_iload_n (pc := 56) dX8_mark_56 rfl rfl ?_
          refine gz_gk hf (fun c_23 hf => ?_)
          refine gz_cVI (av := [.int x1, .int x2]) (st := []) (pc := 57) dX8_mark_57 kl_RX8_165 rfl (gz_shs c_23) rfl rfl (Nat.le_of_ble_eq_true rfl) (by show d + 0 + 4 + 1 ≤ d + 5; omega) (sX1_markOf (d := d + 0) (gz_gc hf)) (fun y_22 h_21 hf => ?_)
          exact gz_irt (pc := 60) dX8_mark_60 rfl rfl hf
        · have hf := gz_gT hf c_18
          refine gz_aload_n (pc := 42) dX8_mark_42 rfl rfl ?_
          refine gz_gk hf (fun c_24 hf => ?_)
          refine gz_gb hf (fun r_25 er_25 hf => ?_)
          refine gz_getR (pc := 43) dX8_mark_43 fl_RX8_31 rfl (gz_shs c_24) er_25 ?_
          refine gz_iconst (v := (3 : Int32)) (pc := 46) dX8_mark_46 rfl ?_
          refine gz_gk hf (fun c_28 hf => ?_)
          refine gz_cVI (av := [.int (3 : Int32)]) (st := []) (pc := 47) dX8_mark_47 kl_RX8_125 rfl (gz_shs c_28) rfl rfl (Nat.le_of_ble_eq_true rfl) (by show d + 4 + 0 + 1 ≤ d + 5; omega) (sX0_answer (d := d + 4) (gz_gc hf)) (fun y_27 h_26 hf => ?_)
          exact gz_irt (pc := 50) dX8_mark_50 rfl rfl hf
      · have hf := gz_gF hf c_8
        refine gz_iconst (v := (-1 : Int32)) (pc := 21) dX8_mark_21 rfl ?_
        exact gz_irt (pc := 22) dX8_mark_22 rfl rfl hf
def fX8_mark (a0 : Nat) (x1 : Int32) (x2 : Int32) (h : gz_H) : Option (Int32 × gz_H) := fX8_mark_0 a0 x1 x2 h
theorem sX8_mark {G : gz_G} {d : Nat} {a0 : Nat} {x1 : Int32} {x2 : Int32} {h : gz_H} {Q : Int32 → gz_H → Prop} (hf : gz_g (fX8_mark a0 x1 x2 h) Q) : gz_Cl G mX8_mark (d + 5) 0 0 [.ref a0, .int x1, .int x2] h (gz_qi Q) := gz_cl_of (lo := [.ref a0, .int x1, .int x2]) (by decide) rfl rfl (Nat.le_of_ble_eq_true rfl) (sX8_mark_0 a0 x1 x2 h hf)
theorem dX8_place_0 : decode cX8_place 0 = .ok (.aload_n 0, 1) := by decide +kernel
theorem dX8_place_1 : decode cX8_place 1 = .ok (.getfield 70, 3) := by decide +kernel
theorem dX8_place_4 : decode cX8_place 4 = .ok (.iload_n 1, 1) := by decide +kernel
theorem dX8_place_5 : decode cX8_place 5 = .ok (.invokevirtual 169, 3) := by decide +kernel
theorem dX8_place_8 : decode cX8_place 8 = .ok (.ifCond .eq 15, 3) := by decide +kernel
theorem dX8_place_11 : decode cX8_place 11 = .ok (.aload_n 0, 1) := by decide +kernel
theorem dX8_place_12 : decode cX8_place 12 = .ok (.getfield 70, 3) := by decide +kernel
theorem dX8_place_15 : decode cX8_place 15 = .ok (.getfield 172, 3) := by decide +kernel
theorem dX8_place_18 : decode cX8_place 18 = .ok (.iload_n 1, 1) := by decide +kernel
theorem dX8_place_19 : decode cX8_place 19 = .ok (.iaload, 1) := by decide +kernel
theorem dX8_place_20 : decode cX8_place 20 = .ok (.goto 4, 3) := by decide +kernel
theorem dX8_place_23 : decode cX8_place 23 = .ok (.iconst (-1), 1) := by decide +kernel
theorem dX8_place_24 : decode cX8_place 24 = .ok (.ireturn, 1) := by decide +kernel
def fX8_place_0  (a0 : Nat) (x1 : Int32) (h : gz_H) : Option (Int32 × gz_H) :=
    gz_ck (gz_sh h a0 8 19) <|
    gz_br (h.2.2.2 a0 9) fun r_2 =>
    gz_ck (gz_sh h r_2 1 4) <|
    gz_b2 (fX1_hasFact r_2 x1 h) fun y_4 h_3 =>
    if y_4 = 0 then (
     some ((-1 : Int32), h_3)
    ) else (
     gz_ck (gz_sh h_3 a0 8 19) <|
     gz_br (h_3.2.2.2 a0 9) fun r_8 =>
     gz_ck (gz_sh h_3 r_8 1 4) <|
     gz_br (h_3.2.2.2 r_8 0) fun r_10 =>
     gz_ck (gz_inb h_3 r_10 10 x1) <|
     some (h_3.2.1 r_10 x1.toNatClampNeg, h_3)
    )
set_option maxRecDepth 100000 in
set_option maxHeartbeats 1000000 in
theorem sX8_place_0 {G : gz_G} {d l0 s0 : Nat} {Q : Int32 → gz_H → Prop} (a0 : Nat) (x1 : Int32) (h : gz_H) (hf : gz_g (fX8_place_0  a0 x1 h) Q) : gz_Ok G mX8_place (d + 1, l0, s0, 0, 0) 0 [.ref a0, .int x1] [] h (gz_qi Q) := by
  unfold fX8_place_0 at hf
  refine gz_aload_n (pc := 0) dX8_place_0 rfl rfl ?_
  refine gz_gk hf (fun c_1 hf => ?_)
  refine gz_gb hf (fun r_2 er_2 hf => ?_)
  refine gz_getR (pc := 1) dX8_place_1 fl_RX8_70 rfl (gz_shs c_1) er_2 ?_
  refine gz_iload_n (pc := 4) dX8_place_4 rfl rfl ?_
  refine gz_gk hf (fun c_5 hf => ?_)
  refine gz_cVI (av := [.int x1]) (st := []) (pc := 5) dX8_place_5 kl_RX8_169 rfl (gz_shs c_5) rfl rfl (Nat.le_of_ble_eq_true rfl) (by show d + 0 + 0 + 1 ≤ d + 1; omega) (sX1_hasFact (d := d + 0) (gz_gc hf)) (fun y_4 h_3 hf => ?_)
  refine gz_if_eq (tgt := 23) (pc := 8) dX8_place_8 rfl (fun c_6 => ?_) (fun c_6 => ?_)
  · have hf := gz_gT hf c_6
    refine gz_iconst (v := (-1 : Int32)) (pc := 23) dX8_place_23 rfl ?_
    exact gz_irt (pc := 24) dX8_place_24 rfl rfl hf
  · have hf := gz_gF hf c_6
    refine gz_aload_n (pc := 11) dX8_place_11 rfl rfl ?_
    refine gz_gk hf (fun c_7 hf => ?_)
    refine gz_gb hf (fun r_8 er_8 hf => ?_)
    refine gz_getR (pc := 12) dX8_place_12 fl_RX8_70 rfl (gz_shs c_7) er_8 ?_
    refine gz_gk hf (fun c_9 hf => ?_)
    refine gz_gb hf (fun r_10 er_10 hf => ?_)
    refine gz_getR (pc := 15) dX8_place_15 fl_RX8_172 rfl (gz_shs c_9) er_10 ?_
    refine gz_iload_n (pc := 18) dX8_place_18 rfl rfl ?_
    refine gz_gk hf (fun c_11 hf => ?_)
    refine gz_iald (pc := 19) dX8_place_19 c_11 ?_
    refine gz_goto (tgt := 24) (pc := 20) dX8_place_20 rfl ?_
    exact gz_irt (pc := 24) dX8_place_24 rfl rfl hf
def fX8_place (a0 : Nat) (x1 : Int32) (h : gz_H) : Option (Int32 × gz_H) := fX8_place_0 a0 x1 h
theorem sX8_place {G : gz_G} {d : Nat} {a0 : Nat} {x1 : Int32} {h : gz_H} {Q : Int32 → gz_H → Prop} (hf : gz_g (fX8_place a0 x1 h) Q) : gz_Cl G mX8_place (d + 1) 0 0 [.ref a0, .int x1] h (gz_qi Q) := gz_cl_of (lo := [.ref a0, .int x1]) (by decide) rfl rfl (Nat.le_of_ble_eq_true rfl) (sX8_place_0 a0 x1 h hf)
theorem dX8_doDeed_0 : decode cX8_doDeed 0 = .ok (.aload_n 0, 1) := by decide +kernel
theorem dX8_doDeed_1 : decode cX8_doDeed 1 = .ok (.getfield 70, 3) := by decide +kernel
theorem dX8_doDeed_4 : decode cX8_doDeed 4 = .ok (.getfield 153, 3) := by decide +kernel
theorem dX8_doDeed_7 : decode cX8_doDeed 7 = .ok (.iload_n 2, 1) := by decide +kernel
theorem dX8_doDeed_8 : decode cX8_doDeed 8 = .ok (.aaload, 1) := by decide +kernel
theorem dX8_doDeed_9 : decode cX8_doDeed 9 = .ok (.getfield 179, 3) := by decide +kernel
theorem dX8_doDeed_12 : decode cX8_doDeed 12 = .ok (.ifCond .eq 6, 3) := by decide +kernel
theorem dX8_doDeed_15 : decode cX8_doDeed 15 = .ok (.bipush (-4), 2) := by decide +kernel
theorem dX8_doDeed_17 : decode cX8_doDeed 17 = .ok (.ireturn, 1) := by decide +kernel
theorem dX8_doDeed_18 : decode cX8_doDeed 18 = .ok (.aload_n 0, 1) := by decide +kernel
theorem dX8_doDeed_19 : decode cX8_doDeed 19 = .ok (.getfield 59, 3) := by decide +kernel
theorem dX8_doDeed_22 : decode cX8_doDeed 22 = .ok (.getfield 99, 3) := by decide +kernel
theorem dX8_doDeed_25 : decode cX8_doDeed 25 = .ok (.bipush 40, 2) := by decide +kernel
theorem dX8_doDeed_27 : decode cX8_doDeed 27 = .ok (.if_icmp .lt 6, 3) := by decide +kernel
theorem dX8_doDeed_30 : decode cX8_doDeed 30 = .ok (.bipush (-2), 2) := by decide +kernel
theorem dX8_doDeed_32 : decode cX8_doDeed 32 = .ok (.ireturn, 1) := by decide +kernel
theorem dX8_doDeed_33 : decode cX8_doDeed 33 = .ok (.aload_n 0, 1) := by decide +kernel
theorem dX8_doDeed_34 : decode cX8_doDeed 34 = .ok (.getfield 59, 3) := by decide +kernel
theorem dX8_doDeed_37 : decode cX8_doDeed 37 = .ok (.iload_n 1, 1) := by decide +kernel
theorem dX8_doDeed_38 : decode cX8_doDeed 38 = .ok (.iload_n 2, 1) := by decide +kernel
theorem dX8_doDeed_39 : decode cX8_doDeed 39 = .ok (.iload_n 3, 1) := by decide +kernel
theorem dX8_doDeed_40 : decode cX8_doDeed 40 = .ok (.invokevirtual 346, 3) := by decide +kernel
theorem dX8_doDeed_43 : decode cX8_doDeed 43 = .ok (.aload_n 0, 1) := by decide +kernel
theorem dX8_doDeed_44 : decode cX8_doDeed 44 = .ok (.getfield 70, 3) := by decide +kernel
theorem dX8_doDeed_47 : decode cX8_doDeed 47 = .ok (.iload_n 1, 1) := by decide +kernel
theorem dX8_doDeed_48 : decode cX8_doDeed 48 = .ok (.iload_n 2, 1) := by decide +kernel
theorem dX8_doDeed_49 : decode cX8_doDeed 49 = .ok (.iload_n 3, 1) := by decide +kernel
theorem dX8_doDeed_50 : decode cX8_doDeed 50 = .ok (.invokevirtual 349, 3) := by decide +kernel
theorem dX8_doDeed_53 : decode cX8_doDeed 53 = .ok (.ireturn, 1) := by decide +kernel
def fX8_doDeed_0  (a0 : Nat) (x1 : Int32) (x2 : Int32) (x3 : Int32) (h : gz_H) : Option (Int32 × gz_H) :=
    gz_ck (gz_sh h a0 8 19) <|
    gz_br (h.2.2.2 a0 9) fun r_2 =>
    gz_ck (gz_sh h r_2 1 4) <|
    gz_br (h.2.2.2 r_2 1) fun r_4 =>
    gz_ck (gz_inb h r_4 11 x2) <|
    gz_br (h.2.2.2 r_4 x2.toNatClampNeg) fun r_6 =>
    gz_ck (gz_sh h r_6 2 6) <|
    if (h.2.1 r_6 5) = 0 then (
     gz_br (h.2.2.2 a0 7) fun r_9 =>
     gz_ck (gz_sh h r_9 3 2) <|
     if (h.2.1 r_9 1) < (40 : Int32) then (
      gz_b2 (fX3_note r_9 x1 x2 x3 h) fun _ h_12 =>
      gz_ck (gz_sh h_12 a0 8 19) <|
      gz_br (h_12.2.2.2 a0 9) fun r_15 =>
      gz_ck (gz_sh h_12 r_15 1 4) <|
      gz_b2 (fX1_perform r_15 x1 x2 x3 h_12) fun y_17 h_16 =>
      some (y_17, h_16)
     ) else (
      some ((-2 : Int32), h)
     )
    ) else (
     some ((-4 : Int32), h)
    )
set_option maxRecDepth 100000 in
set_option maxHeartbeats 1000000 in
theorem sX8_doDeed_0 {G : gz_G} {d l0 s0 : Nat} {Q : Int32 → gz_H → Prop} (a0 : Nat) (x1 : Int32) (x2 : Int32) (x3 : Int32) (h : gz_H) (hf : gz_g (fX8_doDeed_0  a0 x1 x2 x3 h) Q) : gz_Ok G mX8_doDeed (d + 6, l0, s0, 0, 0) 0 [.ref a0, .int x1, .int x2, .int x3] [] h (gz_qi Q) := by
  unfold fX8_doDeed_0 at hf
  refine gz_aload_n (pc := 0) dX8_doDeed_0 rfl rfl ?_
  refine gz_gk hf (fun c_1 hf => ?_)
  refine gz_gb hf (fun r_2 er_2 hf => ?_)
  refine gz_getR (pc := 1) dX8_doDeed_1 fl_RX8_70 rfl (gz_shs c_1) er_2 ?_
  refine gz_gk hf (fun c_3 hf => ?_)
  refine gz_gb hf (fun r_4 er_4 hf => ?_)
  refine gz_getR (pc := 4) dX8_doDeed_4 fl_RX8_153 rfl (gz_shs c_3) er_4 ?_
  refine gz_iload_n (pc := 7) dX8_doDeed_7 rfl rfl ?_
  refine gz_gk hf (fun c_5 hf => ?_)
  refine gz_gb hf (fun r_6 er_6 hf => ?_)
  refine gz_aald (Or.inl rfl) (pc := 8) dX8_doDeed_8 c_5 er_6 ?_
  refine gz_gk hf (fun c_7 hf => ?_)
  refine gz_getI (pc := 9) dX8_doDeed_9 fl_RX8_179 rfl (gz_shs c_7) ?_
  refine gz_if_eq (tgt := 18) (pc := 12) dX8_doDeed_12 rfl (fun c_8 => ?_) (fun c_8 => ?_)
  · have hf := gz_gT hf c_8
    refine gz_aload_n (pc := 18) dX8_doDeed_18 rfl rfl ?_
    refine gz_gb hf (fun r_9 er_9 hf => ?_)
    refine gz_getR (pc := 19) dX8_doDeed_19 fl_RX8_59 rfl (gz_shs c_1) er_9 ?_
    refine gz_gk hf (fun c_10 hf => ?_)
    refine gz_getI (pc := 22) dX8_doDeed_22 fl_RX8_99 rfl (gz_shs c_10) ?_
    refine gz_bipush (v := (40 : Int32)) (pc := 25) dX8_doDeed_25 rfl ?_
    refine gz_icmp_lt (tgt := 33) (pc := 27) dX8_doDeed_27 rfl (fun c_11 => ?_) (fun c_11 => ?_)
    · have hf := gz_gT hf c_11
      refine gz_aload_n (pc := 33) dX8_doDeed_33 rfl rfl ?_
      refine gz_getR (pc := 34) dX8_doDeed_34 fl_RX8_59 rfl (gz_shs c_1) er_9 ?_
      refine gz_iload_n (pc := 37) dX8_doDeed_37 rfl rfl ?_
      refine gz_iload_n (pc := 38) dX8_doDeed_38 rfl rfl ?_
      refine gz_iload_n (pc := 39) dX8_doDeed_39 rfl rfl ?_
      refine gz_cVV (av := [.int x1, .int x2, .int x3]) (st := []) (pc := 40) dX8_doDeed_40 kl_RX8_346 rfl (gz_shs c_10) rfl rfl (Nat.le_of_ble_eq_true rfl) (by show d + 5 + 0 + 1 ≤ d + 6; omega) (sX3_note (d := d + 5) (gz_gc hf)) (fun _ h_12 hf => ?_)
      refine gz_aload_n (pc := 43) dX8_doDeed_43 rfl rfl ?_
      refine gz_gk hf (fun c_14 hf => ?_)
      refine gz_gb hf (fun r_15 er_15 hf => ?_)
      refine gz_getR (pc := 44) dX8_doDeed_44 fl_RX8_70 rfl (gz_shs c_14) er_15 ?_
      refine gz_iload_n (pc := 47) dX8_doDeed_47 rfl rfl ?_
      refine gz_iload_n (pc := 48) dX8_doDeed_48 rfl rfl ?_
      refine gz_iload_n (pc := 49) dX8_doDeed_49 rfl rfl ?_
      refine gz_gk hf (fun c_18 hf => ?_)
      refine gz_cVI (av := [.int x1, .int x2, .int x3]) (st := []) (pc := 50) dX8_doDeed_50 kl_RX8_349 rfl (gz_shs c_18) rfl rfl (Nat.le_of_ble_eq_true rfl) (by show d + 0 + 5 + 1 ≤ d + 6; omega) (sX1_perform (d := d + 0) (gz_gc hf)) (fun y_17 h_16 hf => ?_)
      exact gz_irt (pc := 53) dX8_doDeed_53 rfl rfl hf
    · have hf := gz_gF hf c_11
      refine gz_bipush (v := (-2 : Int32)) (pc := 30) dX8_doDeed_30 rfl ?_
      exact gz_irt (pc := 32) dX8_doDeed_32 rfl rfl hf
  · have hf := gz_gF hf c_8
    refine gz_bipush (v := (-4 : Int32)) (pc := 15) dX8_doDeed_15 rfl ?_
    exact gz_irt (pc := 17) dX8_doDeed_17 rfl rfl hf
def fX8_doDeed (a0 : Nat) (x1 : Int32) (x2 : Int32) (x3 : Int32) (h : gz_H) : Option (Int32 × gz_H) := fX8_doDeed_0 a0 x1 x2 x3 h
theorem sX8_doDeed {G : gz_G} {d : Nat} {a0 : Nat} {x1 : Int32} {x2 : Int32} {x3 : Int32} {h : gz_H} {Q : Int32 → gz_H → Prop} (hf : gz_g (fX8_doDeed a0 x1 x2 x3 h) Q) : gz_Cl G mX8_doDeed (d + 6) 0 0 [.ref a0, .int x1, .int x2, .int x3] h (gz_qi Q) := gz_cl_of (lo := [.ref a0, .int x1, .int x2, .int x3]) (by decide) rfl rfl (Nat.le_of_ble_eq_true rfl) (sX8_doDeed_0 a0 x1 x2 x3 h hf)
theorem dX8_give_0 : decode cX8_give 0 = .ok (.aload_n 0, 1) := by decide +kernel
theorem dX8_give_1 : decode cX8_give 1 = .ok (.getfield 70, 3) := by decide +kernel
theorem dX8_give_4 : decode cX8_give 4 = .ok (.iload_n 1, 1) := by decide +kernel
theorem dX8_give_5 : decode cX8_give 5 = .ok (.invokevirtual 150, 3) := by decide +kernel
theorem dX8_give_8 : decode cX8_give 8 = .ok (.ifCond .eq 14, 3) := by decide +kernel
theorem dX8_give_11 : decode cX8_give 11 = .ok (.aload_n 0, 1) := by decide +kernel
theorem dX8_give_12 : decode cX8_give 12 = .ok (.getfield 70, 3) := by decide +kernel
theorem dX8_give_15 : decode cX8_give 15 = .ok (.iload_n 2, 1) := by decide +kernel
theorem dX8_give_16 : decode cX8_give 16 = .ok (.invokevirtual 169, 3) := by decide +kernel
theorem dX8_give_19 : decode cX8_give 19 = .ok (.ifCond .ne 5, 3) := by decide +kernel
theorem dX8_give_22 : decode cX8_give 22 = .ok (.iconst (-1), 1) := by decide +kernel
theorem dX8_give_23 : decode cX8_give 23 = .ok (.ireturn, 1) := by decide +kernel
theorem dX8_give_24 : decode cX8_give 24 = .ok (.aload_n 0, 1) := by decide +kernel
theorem dX8_give_25 : decode cX8_give 25 = .ok (.iconst 0, 1) := by decide +kernel
theorem dX8_give_26 : decode cX8_give 26 = .ok (.iload_n 1, 1) := by decide +kernel
theorem dX8_give_27 : decode cX8_give 27 = .ok (.iload_n 2, 1) := by decide +kernel
theorem dX8_give_28 : decode cX8_give 28 = .ok (.invokevirtual 175, 3) := by decide +kernel
theorem dX8_give_31 : decode cX8_give 31 = .ok (.ireturn, 1) := by decide +kernel
def fX8_give_0  (a0 : Nat) (x1 : Int32) (x2 : Int32) (h : gz_H) : Option (Int32 × gz_H) :=
    gz_ck (gz_sh h a0 8 19) <|
    gz_br (h.2.2.2 a0 9) fun r_2 =>
    gz_ck (gz_sh h r_2 1 4) <|
    gz_b2 (fX1_hasGoose r_2 x1 h) fun y_4 h_3 =>
    if y_4 = 0 then (
     some ((-1 : Int32), h_3)
    ) else (
     gz_ck (gz_sh h_3 a0 8 19) <|
     gz_br (h_3.2.2.2 a0 9) fun r_8 =>
     gz_ck (gz_sh h_3 r_8 1 4) <|
     gz_b2 (fX1_hasFact r_8 x2 h_3) fun y_10 h_9 =>
     if y_10 = 0 then (
      some ((-1 : Int32), h_9)
     ) else (
      gz_ck (gz_sh h_9 a0 8 19) <|
      gz_b2 (fX8_doDeed a0 (0 : Int32) x1 x2 h_9) fun y_14 h_13 =>
      some (y_14, h_13)
     )
    )
set_option maxRecDepth 100000 in
set_option maxHeartbeats 1000000 in
theorem sX8_give_0 {G : gz_G} {d l0 s0 : Nat} {Q : Int32 → gz_H → Prop} (a0 : Nat) (x1 : Int32) (x2 : Int32) (h : gz_H) (hf : gz_g (fX8_give_0  a0 x1 x2 h) Q) : gz_Ok G mX8_give (d + 7, l0, s0, 0, 0) 0 [.ref a0, .int x1, .int x2] [] h (gz_qi Q) := by
  unfold fX8_give_0 at hf
  refine gz_aload_n (pc := 0) dX8_give_0 rfl rfl ?_
  refine gz_gk hf (fun c_1 hf => ?_)
  refine gz_gb hf (fun r_2 er_2 hf => ?_)
  refine gz_getR (pc := 1) dX8_give_1 fl_RX8_70 rfl (gz_shs c_1) er_2 ?_
  refine gz_iload_n (pc := 4) dX8_give_4 rfl rfl ?_
  refine gz_gk hf (fun c_5 hf => ?_)
  refine gz_cVI (av := [.int x1]) (st := []) (pc := 5) dX8_give_5 kl_RX8_150 rfl (gz_shs c_5) rfl rfl (Nat.le_of_ble_eq_true rfl) (by show d + 6 + 0 + 1 ≤ d + 7; omega) (sX1_hasGoose (d := d + 6) (gz_gc hf)) (fun y_4 h_3 hf => ?_)
  refine gz_if_eq (tgt := 22) (pc := 8) dX8_give_8 rfl (fun c_6 => ?_) (fun c_6 => ?_)
  · have hf := gz_gT hf c_6
    refine gz_iconst (v := (-1 : Int32)) (pc := 22) dX8_give_22 rfl ?_
    exact gz_irt (pc := 23) dX8_give_23 rfl rfl hf
  · have hf := gz_gF hf c_6
    refine gz_aload_n (pc := 11) dX8_give_11 rfl rfl ?_
    refine gz_gk hf (fun c_7 hf => ?_)
    refine gz_gb hf (fun r_8 er_8 hf => ?_)
    refine gz_getR (pc := 12) dX8_give_12 fl_RX8_70 rfl (gz_shs c_7) er_8 ?_
    refine gz_iload_n (pc := 15) dX8_give_15 rfl rfl ?_
    refine gz_gk hf (fun c_11 hf => ?_)
    refine gz_cVI (av := [.int x2]) (st := []) (pc := 16) dX8_give_16 kl_RX8_169 rfl (gz_shs c_11) rfl rfl (Nat.le_of_ble_eq_true rfl) (by show d + 6 + 0 + 1 ≤ d + 7; omega) (sX1_hasFact (d := d + 6) (gz_gc hf)) (fun y_10 h_9 hf => ?_)
    refine gz_if_ne (tgt := 24) (pc := 19) dX8_give_19 rfl (fun c_12 => ?_) (fun c_12 => ?_)
    · have hf := gz_gF hf c_12
      refine gz_aload_n (pc := 24) dX8_give_24 rfl rfl ?_
      refine gz_iconst (v := (0 : Int32)) (pc := 25) dX8_give_25 rfl ?_
      refine gz_iload_n (pc := 26) dX8_give_26 rfl rfl ?_
      refine gz_iload_n (pc := 27) dX8_give_27 rfl rfl ?_
      refine gz_gk hf (fun c_15 hf => ?_)
      refine gz_cVI (av := [.int (0 : Int32), .int x1, .int x2]) (st := []) (pc := 28) dX8_give_28 kl_RX8_175 rfl (gz_shs c_15) rfl rfl (Nat.le_of_ble_eq_true rfl) (by show d + 0 + 6 + 1 ≤ d + 7; omega) (sX8_doDeed (d := d + 0) (gz_gc hf)) (fun y_14 h_13 hf => ?_)
      exact gz_irt (pc := 31) dX8_give_31 rfl rfl hf
    · have hf := gz_gT hf c_12
      refine gz_iconst (v := (-1 : Int32)) (pc := 22) dX8_give_22 rfl ?_
      exact gz_irt (pc := 23) dX8_give_23 rfl rfl hf
def fX8_give (a0 : Nat) (x1 : Int32) (x2 : Int32) (h : gz_H) : Option (Int32 × gz_H) := fX8_give_0 a0 x1 x2 h
theorem sX8_give {G : gz_G} {d : Nat} {a0 : Nat} {x1 : Int32} {x2 : Int32} {h : gz_H} {Q : Int32 → gz_H → Prop} (hf : gz_g (fX8_give a0 x1 x2 h) Q) : gz_Cl G mX8_give (d + 7) 0 0 [.ref a0, .int x1, .int x2] h (gz_qi Q) := gz_cl_of (lo := [.ref a0, .int x1, .int x2]) (by decide) rfl rfl (Nat.le_of_ble_eq_true rfl) (sX8_give_0 a0 x1 x2 h hf)
theorem dX8_fright_0 : decode cX8_fright 0 = .ok (.aload_n 0, 1) := by decide +kernel
theorem dX8_fright_1 : decode cX8_fright 1 = .ok (.getfield 70, 3) := by decide +kernel
theorem dX8_fright_4 : decode cX8_fright 4 = .ok (.iload_n 1, 1) := by decide +kernel
theorem dX8_fright_5 : decode cX8_fright 5 = .ok (.invokevirtual 150, 3) := by decide +kernel
theorem dX8_fright_8 : decode cX8_fright 8 = .ok (.ifCond .ne 5, 3) := by decide +kernel
theorem dX8_fright_11 : decode cX8_fright 11 = .ok (.iconst (-1), 1) := by decide +kernel
theorem dX8_fright_12 : decode cX8_fright 12 = .ok (.ireturn, 1) := by decide +kernel
theorem dX8_fright_13 : decode cX8_fright 13 = .ok (.aload_n 0, 1) := by decide +kernel
theorem dX8_fright_14 : decode cX8_fright 14 = .ok (.iconst 1, 1) := by decide +kernel
theorem dX8_fright_15 : decode cX8_fright 15 = .ok (.iload_n 1, 1) := by decide +kernel
theorem dX8_fright_16 : decode cX8_fright 16 = .ok (.iconst 0, 1) := by decide +kernel
theorem dX8_fright_17 : decode cX8_fright 17 = .ok (.invokevirtual 175, 3) := by decide +kernel
theorem dX8_fright_20 : decode cX8_fright 20 = .ok (.ireturn, 1) := by decide +kernel
def fX8_fright_0  (a0 : Nat) (x1 : Int32) (h : gz_H) : Option (Int32 × gz_H) :=
    gz_ck (gz_sh h a0 8 19) <|
    gz_br (h.2.2.2 a0 9) fun r_2 =>
    gz_ck (gz_sh h r_2 1 4) <|
    gz_b2 (fX1_hasGoose r_2 x1 h) fun y_4 h_3 =>
    if y_4 = 0 then (
     some ((-1 : Int32), h_3)
    ) else (
     gz_ck (gz_sh h_3 a0 8 19) <|
     gz_b2 (fX8_doDeed a0 (1 : Int32) x1 (0 : Int32) h_3) fun y_8 h_7 =>
     some (y_8, h_7)
    )
set_option maxRecDepth 100000 in
set_option maxHeartbeats 1000000 in
theorem sX8_fright_0 {G : gz_G} {d l0 s0 : Nat} {Q : Int32 → gz_H → Prop} (a0 : Nat) (x1 : Int32) (h : gz_H) (hf : gz_g (fX8_fright_0  a0 x1 h) Q) : gz_Ok G mX8_fright (d + 7, l0, s0, 0, 0) 0 [.ref a0, .int x1] [] h (gz_qi Q) := by
  unfold fX8_fright_0 at hf
  refine gz_aload_n (pc := 0) dX8_fright_0 rfl rfl ?_
  refine gz_gk hf (fun c_1 hf => ?_)
  refine gz_gb hf (fun r_2 er_2 hf => ?_)
  refine gz_getR (pc := 1) dX8_fright_1 fl_RX8_70 rfl (gz_shs c_1) er_2 ?_
  refine gz_iload_n (pc := 4) dX8_fright_4 rfl rfl ?_
  refine gz_gk hf (fun c_5 hf => ?_)
  refine gz_cVI (av := [.int x1]) (st := []) (pc := 5) dX8_fright_5 kl_RX8_150 rfl (gz_shs c_5) rfl rfl (Nat.le_of_ble_eq_true rfl) (by show d + 6 + 0 + 1 ≤ d + 7; omega) (sX1_hasGoose (d := d + 6) (gz_gc hf)) (fun y_4 h_3 hf => ?_)
  refine gz_if_ne (tgt := 13) (pc := 8) dX8_fright_8 rfl (fun c_6 => ?_) (fun c_6 => ?_)
  · have hf := gz_gF hf c_6
    refine gz_aload_n (pc := 13) dX8_fright_13 rfl rfl ?_
    refine gz_iconst (v := (1 : Int32)) (pc := 14) dX8_fright_14 rfl ?_
    refine gz_iload_n (pc := 15) dX8_fright_15 rfl rfl ?_
    refine gz_iconst (v := (0 : Int32)) (pc := 16) dX8_fright_16 rfl ?_
    refine gz_gk hf (fun c_9 hf => ?_)
    refine gz_cVI (av := [.int (1 : Int32), .int x1, .int (0 : Int32)]) (st := []) (pc := 17) dX8_fright_17 kl_RX8_175 rfl (gz_shs c_9) rfl rfl (Nat.le_of_ble_eq_true rfl) (by show d + 0 + 6 + 1 ≤ d + 7; omega) (sX8_doDeed (d := d + 0) (gz_gc hf)) (fun y_8 h_7 hf => ?_)
    exact gz_irt (pc := 20) dX8_fright_20 rfl rfl hf
  · have hf := gz_gT hf c_6
    refine gz_iconst (v := (-1 : Int32)) (pc := 11) dX8_fright_11 rfl ?_
    exact gz_irt (pc := 12) dX8_fright_12 rfl rfl hf
def fX8_fright (a0 : Nat) (x1 : Int32) (h : gz_H) : Option (Int32 × gz_H) := fX8_fright_0 a0 x1 h
theorem sX8_fright {G : gz_G} {d : Nat} {a0 : Nat} {x1 : Int32} {h : gz_H} {Q : Int32 → gz_H → Prop} (hf : gz_g (fX8_fright a0 x1 h) Q) : gz_Cl G mX8_fright (d + 7) 0 0 [.ref a0, .int x1] h (gz_qi Q) := gz_cl_of (lo := [.ref a0, .int x1]) (by decide) rfl rfl (Nat.le_of_ble_eq_true rfl) (sX8_fright_0 a0 x1 h hf)
theorem dX8_mix_0 : decode cX8_mix 0 = .ok (.aload_n 0, 1) := by decide +kernel
theorem dX8_mix_1 : decode cX8_mix 1 = .ok (.getfield 70, 3) := by decide +kernel
theorem dX8_mix_4 : decode cX8_mix 4 = .ok (.iload_n 1, 1) := by decide +kernel
theorem dX8_mix_5 : decode cX8_mix 5 = .ok (.invokevirtual 150, 3) := by decide +kernel
theorem dX8_mix_8 : decode cX8_mix 8 = .ok (.ifCond .eq 19, 3) := by decide +kernel
theorem dX8_mix_11 : decode cX8_mix 11 = .ok (.aload_n 0, 1) := by decide +kernel
theorem dX8_mix_12 : decode cX8_mix 12 = .ok (.getfield 70, 3) := by decide +kernel
theorem dX8_mix_15 : decode cX8_mix 15 = .ok (.iload_n 2, 1) := by decide +kernel
theorem dX8_mix_16 : decode cX8_mix 16 = .ok (.invokevirtual 150, 3) := by decide +kernel
theorem dX8_mix_19 : decode cX8_mix 19 = .ok (.ifCond .eq 8, 3) := by decide +kernel
theorem dX8_mix_22 : decode cX8_mix 22 = .ok (.iload_n 1, 1) := by decide +kernel
theorem dX8_mix_23 : decode cX8_mix 23 = .ok (.iload_n 2, 1) := by decide +kernel
theorem dX8_mix_24 : decode cX8_mix 24 = .ok (.if_icmp .ne 5, 3) := by decide +kernel
theorem dX8_mix_27 : decode cX8_mix 27 = .ok (.iconst (-1), 1) := by decide +kernel
theorem dX8_mix_28 : decode cX8_mix 28 = .ok (.ireturn, 1) := by decide +kernel
theorem dX8_mix_29 : decode cX8_mix 29 = .ok (.aload_n 0, 1) := by decide +kernel
theorem dX8_mix_30 : decode cX8_mix 30 = .ok (.getfield 70, 3) := by decide +kernel
theorem dX8_mix_33 : decode cX8_mix 33 = .ok (.getfield 153, 3) := by decide +kernel
theorem dX8_mix_36 : decode cX8_mix 36 = .ok (.iload_n 2, 1) := by decide +kernel
theorem dX8_mix_37 : decode cX8_mix 37 = .ok (.aaload, 1) := by decide +kernel
theorem dX8_mix_38 : decode cX8_mix 38 = .ok (.getfield 179, 3) := by decide +kernel
theorem dX8_mix_41 : decode cX8_mix 41 = .ok (.ifCond .eq 6, 3) := by decide +kernel
theorem dX8_mix_44 : decode cX8_mix 44 = .ok (.bipush (-4), 2) := by decide +kernel
theorem dX8_mix_46 : decode cX8_mix 46 = .ok (.ireturn, 1) := by decide +kernel
theorem dX8_mix_47 : decode cX8_mix 47 = .ok (.aload_n 0, 1) := by decide +kernel
theorem dX8_mix_48 : decode cX8_mix 48 = .ok (.iconst 2, 1) := by decide +kernel
theorem dX8_mix_49 : decode cX8_mix 49 = .ok (.iload_n 1, 1) := by decide +kernel
theorem dX8_mix_50 : decode cX8_mix 50 = .ok (.iload_n 2, 1) := by decide +kernel
theorem dX8_mix_51 : decode cX8_mix 51 = .ok (.invokevirtual 175, 3) := by decide +kernel
theorem dX8_mix_54 : decode cX8_mix 54 = .ok (.ireturn, 1) := by decide +kernel
def fX8_mix_0  (a0 : Nat) (x1 : Int32) (x2 : Int32) (h : gz_H) : Option (Int32 × gz_H) :=
    gz_ck (gz_sh h a0 8 19) <|
    gz_br (h.2.2.2 a0 9) fun r_2 =>
    gz_ck (gz_sh h r_2 1 4) <|
    gz_b2 (fX1_hasGoose r_2 x1 h) fun y_4 h_3 =>
    if y_4 = 0 then (
     some ((-1 : Int32), h_3)
    ) else (
     gz_ck (gz_sh h_3 a0 8 19) <|
     gz_br (h_3.2.2.2 a0 9) fun r_8 =>
     gz_ck (gz_sh h_3 r_8 1 4) <|
     gz_b2 (fX1_hasGoose r_8 x2 h_3) fun y_10 h_9 =>
     if y_10 = 0 then (
      some ((-1 : Int32), h_9)
     ) else (
      if x1 = x2 then (
       some ((-1 : Int32), h_9)
      ) else (
       gz_ck (gz_sh h_9 a0 8 19) <|
       gz_br (h_9.2.2.2 a0 9) fun r_15 =>
       gz_ck (gz_sh h_9 r_15 1 4) <|
       gz_br (h_9.2.2.2 r_15 1) fun r_17 =>
       gz_ck (gz_inb h_9 r_17 11 x2) <|
       gz_br (h_9.2.2.2 r_17 x2.toNatClampNeg) fun r_19 =>
       gz_ck (gz_sh h_9 r_19 2 6) <|
       if (h_9.2.1 r_19 5) = 0 then (
        gz_b2 (fX8_doDeed a0 (2 : Int32) x1 x2 h_9) fun y_23 h_22 =>
        some (y_23, h_22)
       ) else (
        some ((-4 : Int32), h_9)
       )
      )
     )
    )
set_option maxRecDepth 100000 in
set_option maxHeartbeats 1000000 in
theorem sX8_mix_0 {G : gz_G} {d l0 s0 : Nat} {Q : Int32 → gz_H → Prop} (a0 : Nat) (x1 : Int32) (x2 : Int32) (h : gz_H) (hf : gz_g (fX8_mix_0  a0 x1 x2 h) Q) : gz_Ok G mX8_mix (d + 7, l0, s0, 0, 0) 0 [.ref a0, .int x1, .int x2] [] h (gz_qi Q) := by
  unfold fX8_mix_0 at hf
  refine gz_aload_n (pc := 0) dX8_mix_0 rfl rfl ?_
  refine gz_gk hf (fun c_1 hf => ?_)
  refine gz_gb hf (fun r_2 er_2 hf => ?_)
  refine gz_getR (pc := 1) dX8_mix_1 fl_RX8_70 rfl (gz_shs c_1) er_2 ?_
  refine gz_iload_n (pc := 4) dX8_mix_4 rfl rfl ?_
  refine gz_gk hf (fun c_5 hf => ?_)
  refine gz_cVI (av := [.int x1]) (st := []) (pc := 5) dX8_mix_5 kl_RX8_150 rfl (gz_shs c_5) rfl rfl (Nat.le_of_ble_eq_true rfl) (by show d + 6 + 0 + 1 ≤ d + 7; omega) (sX1_hasGoose (d := d + 6) (gz_gc hf)) (fun y_4 h_3 hf => ?_)
  refine gz_if_eq (tgt := 27) (pc := 8) dX8_mix_8 rfl (fun c_6 => ?_) (fun c_6 => ?_)
  · have hf := gz_gT hf c_6
    refine gz_iconst (v := (-1 : Int32)) (pc := 27) dX8_mix_27 rfl ?_
    exact gz_irt (pc := 28) dX8_mix_28 rfl rfl hf
  · have hf := gz_gF hf c_6
    refine gz_aload_n (pc := 11) dX8_mix_11 rfl rfl ?_
    refine gz_gk hf (fun c_7 hf => ?_)
    refine gz_gb hf (fun r_8 er_8 hf => ?_)
    refine gz_getR (pc := 12) dX8_mix_12 fl_RX8_70 rfl (gz_shs c_7) er_8 ?_
    refine gz_iload_n (pc := 15) dX8_mix_15 rfl rfl ?_
    refine gz_gk hf (fun c_11 hf => ?_)
    refine gz_cVI (av := [.int x2]) (st := []) (pc := 16) dX8_mix_16 kl_RX8_150 rfl (gz_shs c_11) rfl rfl (Nat.le_of_ble_eq_true rfl) (by show d + 6 + 0 + 1 ≤ d + 7; omega) (sX1_hasGoose (d := d + 6) (gz_gc hf)) (fun y_10 h_9 hf => ?_)
    refine gz_if_eq (tgt := 27) (pc := 19) dX8_mix_19 rfl (fun c_12 => ?_) (fun c_12 => ?_)
    · have hf := gz_gT hf c_12
      refine gz_iconst (v := (-1 : Int32)) (pc := 27) dX8_mix_27 rfl ?_
      exact gz_irt (pc := 28) dX8_mix_28 rfl rfl hf
    · have hf := gz_gF hf c_12
      refine gz_iload_n (pc := 22) dX8_mix_22 rfl rfl ?_
      refine gz_iload_n (pc := 23) dX8_mix_23 rfl rfl ?_
      refine gz_icmp_ne (tgt := 29) (pc := 24) dX8_mix_24 rfl (fun c_13 => ?_) (fun c_13 => ?_)
      · have hf := gz_gF hf c_13
        refine gz_aload_n (pc := 29) dX8_mix_29 rfl rfl ?_
        refine gz_gk hf (fun c_14 hf => ?_)
        refine gz_gb hf (fun r_15 er_15 hf => ?_)
        refine gz_getR (pc := 30) dX8_mix_30 fl_RX8_70 rfl (gz_shs c_14) er_15 ?_
        refine gz_gk hf (fun c_16 hf => ?_)
        refine gz_gb hf (fun r_17 er_17 hf => ?_)
        refine gz_getR (pc := 33) dX8_mix_33 fl_RX8_153 rfl (gz_shs c_16) er_17 ?_
        refine gz_iload_n (pc := 36) dX8_mix_36 rfl rfl ?_
        refine gz_gk hf (fun c_18 hf => ?_)
        refine gz_gb hf (fun r_19 er_19 hf => ?_)
        refine gz_aald (Or.inl rfl) (pc := 37) dX8_mix_37 c_18 er_19 ?_
        refine gz_gk hf (fun c_20 hf => ?_)
        refine gz_getI (pc := 38) dX8_mix_38 fl_RX8_179 rfl (gz_shs c_20) ?_
        refine gz_if_eq (tgt := 47) (pc := 41) dX8_mix_41 rfl (fun c_21 => ?_) (fun c_21 => ?_)
        · have hf := gz_gT hf c_21
          refine gz_aload_n (pc := 47) dX8_mix_47 rfl rfl ?_
          refine gz_iconst (v := (2 : Int32)) (pc := 48) dX8_mix_48 rfl ?_
          refine gz_iload_n (pc := 49) dX8_mix_49 rfl rfl ?_
          refine gz_iload_n (pc := 50) dX8_mix_50 rfl rfl ?_
          refine gz_cVI (av := [.int (2 : Int32), .int x1, .int x2]) (st := []) (pc := 51) dX8_mix_51 kl_RX8_175 rfl (gz_shs c_14) rfl rfl (Nat.le_of_ble_eq_true rfl) (by show d + 0 + 6 + 1 ≤ d + 7; omega) (sX8_doDeed (d := d + 0) (gz_gc hf)) (fun y_23 h_22 hf => ?_)
          exact gz_irt (pc := 54) dX8_mix_54 rfl rfl hf
        · have hf := gz_gF hf c_21
          refine gz_bipush (v := (-4 : Int32)) (pc := 44) dX8_mix_44 rfl ?_
          exact gz_irt (pc := 46) dX8_mix_46 rfl rfl hf
      · have hf := gz_gT hf c_13
        refine gz_iconst (v := (-1 : Int32)) (pc := 27) dX8_mix_27 rfl ?_
        exact gz_irt (pc := 28) dX8_mix_28 rfl rfl hf
def fX8_mix (a0 : Nat) (x1 : Int32) (x2 : Int32) (h : gz_H) : Option (Int32 × gz_H) := fX8_mix_0 a0 x1 x2 h
theorem sX8_mix {G : gz_G} {d : Nat} {a0 : Nat} {x1 : Int32} {x2 : Int32} {h : gz_H} {Q : Int32 → gz_H → Prop} (hf : gz_g (fX8_mix a0 x1 x2 h) Q) : gz_Cl G mX8_mix (d + 7) 0 0 [.ref a0, .int x1, .int x2] h (gz_qi Q) := gz_cl_of (lo := [.ref a0, .int x1, .int x2]) (by decide) rfl rfl (Nat.le_of_ble_eq_true rfl) (sX8_mix_0 a0 x1 x2 h hf)
theorem dX8_eat_0 : decode cX8_eat 0 = .ok (.aload_n 0, 1) := by decide +kernel
theorem dX8_eat_1 : decode cX8_eat 1 = .ok (.getfield 70, 3) := by decide +kernel
theorem dX8_eat_4 : decode cX8_eat 4 = .ok (.iload_n 1, 1) := by decide +kernel
theorem dX8_eat_5 : decode cX8_eat 5 = .ok (.invokevirtual 150, 3) := by decide +kernel
theorem dX8_eat_8 : decode cX8_eat 8 = .ok (.ifCond .eq 8, 3) := by decide +kernel
theorem dX8_eat_11 : decode cX8_eat 11 = .ok (.iload_n 2, 1) := by decide +kernel
theorem dX8_eat_12 : decode cX8_eat 12 = .ok (.iload_n 1, 1) := by decide +kernel
theorem dX8_eat_13 : decode cX8_eat 13 = .ok (.if_icmp .ne 5, 3) := by decide +kernel
theorem dX8_eat_16 : decode cX8_eat 16 = .ok (.iconst (-1), 1) := by decide +kernel
theorem dX8_eat_17 : decode cX8_eat 17 = .ok (.ireturn, 1) := by decide +kernel
theorem dX8_eat_18 : decode cX8_eat 18 = .ok (.iload_n 2, 1) := by decide +kernel
theorem dX8_eat_19 : decode cX8_eat 19 = .ok (.bipush (-9), 2) := by decide +kernel
theorem dX8_eat_21 : decode cX8_eat 21 = .ok (.if_icmp .ne 12, 3) := by decide +kernel
theorem dX8_eat_24 : decode cX8_eat 24 = .ok (.aload_n 0, 1) := by decide +kernel
theorem dX8_eat_25 : decode cX8_eat 25 = .ok (.iconst 3, 1) := by decide +kernel
theorem dX8_eat_26 : decode cX8_eat 26 = .ok (.iload_n 1, 1) := by decide +kernel
theorem dX8_eat_27 : decode cX8_eat 27 = .ok (.bipush 15, 2) := by decide +kernel
theorem dX8_eat_29 : decode cX8_eat 29 = .ok (.invokevirtual 175, 3) := by decide +kernel
theorem dX8_eat_32 : decode cX8_eat 32 = .ok (.ireturn, 1) := by decide +kernel
theorem dX8_eat_33 : decode cX8_eat 33 = .ok (.aload_n 0, 1) := by decide +kernel
theorem dX8_eat_34 : decode cX8_eat 34 = .ok (.getfield 70, 3) := by decide +kernel
theorem dX8_eat_37 : decode cX8_eat 37 = .ok (.iload_n 2, 1) := by decide +kernel
theorem dX8_eat_38 : decode cX8_eat 38 = .ok (.invokevirtual 150, 3) := by decide +kernel
theorem dX8_eat_41 : decode cX8_eat 41 = .ok (.ifCond .ne 5, 3) := by decide +kernel
theorem dX8_eat_44 : decode cX8_eat 44 = .ok (.iconst (-1), 1) := by decide +kernel
theorem dX8_eat_45 : decode cX8_eat 45 = .ok (.ireturn, 1) := by decide +kernel
theorem dX8_eat_46 : decode cX8_eat 46 = .ok (.aload_n 0, 1) := by decide +kernel
theorem dX8_eat_47 : decode cX8_eat 47 = .ok (.getfield 70, 3) := by decide +kernel
theorem dX8_eat_50 : decode cX8_eat 50 = .ok (.getfield 153, 3) := by decide +kernel
theorem dX8_eat_53 : decode cX8_eat 53 = .ok (.iload_n 2, 1) := by decide +kernel
theorem dX8_eat_54 : decode cX8_eat 54 = .ok (.aaload, 1) := by decide +kernel
theorem dX8_eat_55 : decode cX8_eat 55 = .ok (.getfield 179, 3) := by decide +kernel
theorem dX8_eat_58 : decode cX8_eat 58 = .ok (.ifCond .eq 6, 3) := by decide +kernel
theorem dX8_eat_61 : decode cX8_eat 61 = .ok (.bipush (-4), 2) := by decide +kernel
theorem dX8_eat_63 : decode cX8_eat 63 = .ok (.ireturn, 1) := by decide +kernel
theorem dX8_eat_64 : decode cX8_eat 64 = .ok (.aload_n 0, 1) := by decide +kernel
theorem dX8_eat_65 : decode cX8_eat 65 = .ok (.iconst 3, 1) := by decide +kernel
theorem dX8_eat_66 : decode cX8_eat 66 = .ok (.iload_n 1, 1) := by decide +kernel
theorem dX8_eat_67 : decode cX8_eat 67 = .ok (.iload_n 2, 1) := by decide +kernel
theorem dX8_eat_68 : decode cX8_eat 68 = .ok (.invokevirtual 175, 3) := by decide +kernel
theorem dX8_eat_71 : decode cX8_eat 71 = .ok (.ireturn, 1) := by decide +kernel
def fX8_eat_0  (a0 : Nat) (x1 : Int32) (x2 : Int32) (h : gz_H) : Option (Int32 × gz_H) :=
    gz_ck (gz_sh h a0 8 19) <|
    gz_br (h.2.2.2 a0 9) fun r_2 =>
    gz_ck (gz_sh h r_2 1 4) <|
    gz_b2 (fX1_hasGoose r_2 x1 h) fun y_4 h_3 =>
    if y_4 = 0 then (
     some ((-1 : Int32), h_3)
    ) else (
     if x2 = x1 then (
      some ((-1 : Int32), h_3)
     ) else (
      if x2 = (-9 : Int32) then (
       gz_ck (gz_sh h_3 a0 8 19) <|
       gz_b2 (fX8_doDeed a0 (3 : Int32) x1 (15 : Int32) h_3) fun y_26 h_25 =>
       some (y_26, h_25)
      ) else (
       gz_ck (gz_sh h_3 a0 8 19) <|
       gz_br (h_3.2.2.2 a0 9) fun r_10 =>
       gz_ck (gz_sh h_3 r_10 1 4) <|
       gz_b2 (fX1_hasGoose r_10 x2 h_3) fun y_12 h_11 =>
       if y_12 = 0 then (
        some ((-1 : Int32), h_11)
       ) else (
        gz_ck (gz_sh h_11 a0 8 19) <|
        gz_br (h_11.2.2.2 a0 9) fun r_16 =>
        gz_ck (gz_sh h_11 r_16 1 4) <|
        gz_br (h_11.2.2.2 r_16 1) fun r_18 =>
        gz_ck (gz_inb h_11 r_18 11 x2) <|
        gz_br (h_11.2.2.2 r_18 x2.toNatClampNeg) fun r_20 =>
        gz_ck (gz_sh h_11 r_20 2 6) <|
        if (h_11.2.1 r_20 5) = 0 then (
         gz_b2 (fX8_doDeed a0 (3 : Int32) x1 x2 h_11) fun y_24 h_23 =>
         some (y_24, h_23)
        ) else (
         some ((-4 : Int32), h_11)
        )
       )
      )
     )
    )
set_option maxRecDepth 100000 in
set_option maxHeartbeats 1000000 in
theorem sX8_eat_0 {G : gz_G} {d l0 s0 : Nat} {Q : Int32 → gz_H → Prop} (a0 : Nat) (x1 : Int32) (x2 : Int32) (h : gz_H) (hf : gz_g (fX8_eat_0  a0 x1 x2 h) Q) : gz_Ok G mX8_eat (d + 7, l0, s0, 0, 0) 0 [.ref a0, .int x1, .int x2] [] h (gz_qi Q) := by
  unfold fX8_eat_0 at hf
  refine gz_aload_n (pc := 0) dX8_eat_0 rfl rfl ?_
  refine gz_gk hf (fun c_1 hf => ?_)
  refine gz_gb hf (fun r_2 er_2 hf => ?_)
  refine gz_getR (pc := 1) dX8_eat_1 fl_RX8_70 rfl (gz_shs c_1) er_2 ?_
  refine gz_iload_n (pc := 4) dX8_eat_4 rfl rfl ?_
  refine gz_gk hf (fun c_5 hf => ?_)
  refine gz_cVI (av := [.int x1]) (st := []) (pc := 5) dX8_eat_5 kl_RX8_150 rfl (gz_shs c_5) rfl rfl (Nat.le_of_ble_eq_true rfl) (by show d + 6 + 0 + 1 ≤ d + 7; omega) (sX1_hasGoose (d := d + 6) (gz_gc hf)) (fun y_4 h_3 hf => ?_)
  refine gz_if_eq (tgt := 16) (pc := 8) dX8_eat_8 rfl (fun c_6 => ?_) (fun c_6 => ?_)
  · have hf := gz_gT hf c_6
    refine gz_iconst (v := (-1 : Int32)) (pc := 16) dX8_eat_16 rfl ?_
    exact gz_irt (pc := 17) dX8_eat_17 rfl rfl hf
  · have hf := gz_gF hf c_6
    refine gz_iload_n (pc := 11) dX8_eat_11 rfl rfl ?_
    refine gz_iload_n (pc := 12) dX8_eat_12 rfl rfl ?_
    refine gz_icmp_ne (tgt := 18) (pc := 13) dX8_eat_13 rfl (fun c_7 => ?_) (fun c_7 => ?_)
    · have hf := gz_gF hf c_7
      refine gz_iload_n (pc := 18) dX8_eat_18 rfl rfl ?_
      refine gz_bipush (v := (-9 : Int32)) (pc := 19) dX8_eat_19 rfl ?_
      refine gz_icmp_ne (tgt := 33) (pc := 21) dX8_eat_21 rfl (fun c_8 => ?_) (fun c_8 => ?_)
      · have hf := gz_gF hf c_8
        refine gz_aload_n (pc := 33) dX8_eat_33 rfl rfl ?_
        refine gz_gk hf (fun c_9 hf => ?_)
        refine gz_gb hf (fun r_10 er_10 hf => ?_)
        refine gz_getR (pc := 34) dX8_eat_34 fl_RX8_70 rfl (gz_shs c_9) er_10 ?_
        refine gz_iload_n (pc := 37) dX8_eat_37 rfl rfl ?_
        refine gz_gk hf (fun c_13 hf => ?_)
        refine gz_cVI (av := [.int x2]) (st := []) (pc := 38) dX8_eat_38 kl_RX8_150 rfl (gz_shs c_13) rfl rfl (Nat.le_of_ble_eq_true rfl) (by show d + 6 + 0 + 1 ≤ d + 7; omega) (sX1_hasGoose (d := d + 6) (gz_gc hf)) (fun y_12 h_11 hf => ?_)
        refine gz_if_ne (tgt := 46) (pc := 41) dX8_eat_41 rfl (fun c_14 => ?_) (fun c_14 => ?_)
        · have hf := gz_gF hf c_14
          refine gz_aload_n (pc := 46) dX8_eat_46 rfl rfl ?_
          refine gz_gk hf (fun c_15 hf => ?_)
          refine gz_gb hf (fun r_16 er_16 hf => ?_)
          refine gz_getR (pc := 47) dX8_eat_47 fl_RX8_70 rfl (gz_shs c_15) er_16 ?_
          refine gz_gk hf (fun c_17 hf => ?_)
          refine gz_gb hf (fun r_18 er_18 hf => ?_)
          refine gz_getR (pc := 50) dX8_eat_50 fl_RX8_153 rfl (gz_shs c_17) er_18 ?_
          refine gz_iload_n (pc := 53) dX8_eat_53 rfl rfl ?_
          refine gz_gk hf (fun c_19 hf => ?_)
          refine gz_gb hf (fun r_20 er_20 hf => ?_)
          refine gz_aald (Or.inl rfl) (pc := 54) dX8_eat_54 c_19 er_20 ?_
          refine gz_gk hf (fun c_21 hf => ?_)
          refine gz_getI (pc := 55) dX8_eat_55 fl_RX8_179 rfl (gz_shs c_21) ?_
          refine gz_if_eq (tgt := 64) (pc := 58) dX8_eat_58 rfl (fun c_22 => ?_) (fun c_22 => ?_)
          · have hf := gz_gT hf c_22
            refine gz_aload_n (pc := 64) dX8_eat_64 rfl rfl ?_
            refine gz_iconst (v := (3 : Int32)) (pc := 65) dX8_eat_65 rfl ?_
            refine gz_iload_n (pc := 66) dX8_eat_66 rfl rfl ?_
            refine gz_iload_n (pc := 67) dX8_eat_67 rfl rfl ?_
            refine gz_cVI (av := [.int (3 : Int32), .int x1, .int x2]) (st := []) (pc := 68) dX8_eat_68 kl_RX8_175 rfl (gz_shs c_15) rfl rfl (Nat.le_of_ble_eq_true rfl) (by show d + 0 + 6 + 1 ≤ d + 7; omega) (sX8_doDeed (d := d + 0) (gz_gc hf)) (fun y_24 h_23 hf => ?_)
            exact gz_irt (pc := 71) dX8_eat_71 rfl rfl hf
          · have hf := gz_gF hf c_22
            refine gz_bipush (v := (-4 : Int32)) (pc := 61) dX8_eat_61 rfl ?_
            exact gz_irt (pc := 63) dX8_eat_63 rfl rfl hf
        · have hf := gz_gT hf c_14
          refine gz_iconst (v := (-1 : Int32)) (pc := 44) dX8_eat_44 rfl ?_
          exact gz_irt (pc := 45) dX8_eat_45 rfl rfl hf
      · have hf := gz_gT hf c_8
        refine gz_aload_n (pc := 24) dX8_eat_24 rfl rfl ?_
        refine gz_iconst (v := (3 : Int32)) (pc := 25) dX8_eat_25 rfl ?_
        refine gz_iload_n (pc := 26) dX8_eat_26 rfl rfl ?_
        refine gz_bipush (v := (15 : Int32)) (pc := 27) dX8_eat_27 rfl ?_
        refine gz_gk hf (fun c_27 hf => ?_)
        refine gz_cVI (av := [.int (3 : Int32), .int x1, .int (15 : Int32)]) (st := []) (pc := 29) dX8_eat_29 kl_RX8_175 rfl (gz_shs c_27) rfl rfl (Nat.le_of_ble_eq_true rfl) (by show d + 0 + 6 + 1 ≤ d + 7; omega) (sX8_doDeed (d := d + 0) (gz_gc hf)) (fun y_26 h_25 hf => ?_)
        exact gz_irt (pc := 32) dX8_eat_32 rfl rfl hf
    · have hf := gz_gT hf c_7
      refine gz_iconst (v := (-1 : Int32)) (pc := 16) dX8_eat_16 rfl ?_
      exact gz_irt (pc := 17) dX8_eat_17 rfl rfl hf
def fX8_eat (a0 : Nat) (x1 : Int32) (x2 : Int32) (h : gz_H) : Option (Int32 × gz_H) := fX8_eat_0 a0 x1 x2 h
theorem sX8_eat {G : gz_G} {d : Nat} {a0 : Nat} {x1 : Int32} {x2 : Int32} {h : gz_H} {Q : Int32 → gz_H → Prop} (hf : gz_g (fX8_eat a0 x1 x2 h) Q) : gz_Cl G mX8_eat (d + 7) 0 0 [.ref a0, .int x1, .int x2] h (gz_qi Q) := gz_cl_of (lo := [.ref a0, .int x1, .int x2]) (by decide) rfl rfl (Nat.le_of_ble_eq_true rfl) (sX8_eat_0 a0 x1 x2 h hf)
theorem dX8_undo_0 : decode cX8_undo 0 = .ok (.iload_n 1, 1) := by decide +kernel
theorem dX8_undo_1 : decode cX8_undo 1 = .ok (.ifCond .lt 14, 3) := by decide +kernel
theorem dX8_undo_4 : decode cX8_undo 4 = .ok (.iload_n 1, 1) := by decide +kernel
theorem dX8_undo_5 : decode cX8_undo 5 = .ok (.aload_n 0, 1) := by decide +kernel
theorem dX8_undo_6 : decode cX8_undo 6 = .ok (.getfield 59, 3) := by decide +kernel
theorem dX8_undo_9 : decode cX8_undo 9 = .ok (.getfield 99, 3) := by decide +kernel
theorem dX8_undo_12 : decode cX8_undo 12 = .ok (.if_icmp .le 5, 3) := by decide +kernel
theorem dX8_undo_15 : decode cX8_undo 15 = .ok (.iconst (-1), 1) := by decide +kernel
theorem dX8_undo_16 : decode cX8_undo 16 = .ok (.ireturn, 1) := by decide +kernel
theorem dX8_undo_17 : decode cX8_undo 17 = .ok (.aload_n 0, 1) := by decide +kernel
theorem dX8_undo_18 : decode cX8_undo 18 = .ok (.getfield 59, 3) := by decide +kernel
theorem dX8_undo_21 : decode cX8_undo 21 = .ok (.getfield 99, 3) := by decide +kernel
theorem dX8_undo_24 : decode cX8_undo 24 = .ok (.iload_n 1, 1) := by decide +kernel
theorem dX8_undo_25 : decode cX8_undo 25 = .ok (.isub, 1) := by decide +kernel
theorem dX8_undo_26 : decode cX8_undo 26 = .ok (.istore_n 2, 1) := by decide +kernel
theorem dX8_undo_27 : decode cX8_undo 27 = .ok (.aload_n 0, 1) := by decide +kernel
theorem dX8_undo_28 : decode cX8_undo 28 = .ok (.getfield 59, 3) := by decide +kernel
theorem dX8_undo_31 : decode cX8_undo 31 = .ok (.iload_n 1, 1) := by decide +kernel
theorem dX8_undo_32 : decode cX8_undo 32 = .ok (.putfield 99, 3) := by decide +kernel
theorem dX8_undo_35 : decode cX8_undo 35 = .ok (.aload_n 0, 1) := by decide +kernel
theorem dX8_undo_36 : decode cX8_undo 36 = .ok (.invokevirtual 146, 3) := by decide +kernel
theorem dX8_undo_39 : decode cX8_undo 39 = .ok (.iload_n 2, 1) := by decide +kernel
theorem dX8_undo_40 : decode cX8_undo 40 = .ok (.ireturn, 1) := by decide +kernel
def fX8_undo_0  (a0 : Nat) (x1 : Int32) (h : gz_H) : Option (Int32 × gz_H) :=
    if x1 < 0 then (
     some ((-1 : Int32), h)
    ) else (
     gz_ck (gz_sh h a0 8 19) <|
     gz_br (h.2.2.2 a0 7) fun r_3 =>
     gz_ck (gz_sh h r_3 3 2) <|
     if x1 ≤ (h.2.1 r_3 1) then (
      gz_lt (uI h r_3 1 x1) fun h_6 =>
      gz_ck (gz_sh h_6 a0 8 19) <|
      gz_b2 (fX8_repeatDeeds a0 h_6) fun _ h_7 =>
      some ((h.2.1 r_3 1) - x1, h_7)
     ) else (
      some ((-1 : Int32), h)
     )
    )
set_option maxRecDepth 100000 in
set_option maxHeartbeats 1000000 in
theorem sX8_undo_0 {G : gz_G} {d l0 s0 : Nat} {Q : Int32 → gz_H → Prop} (a0 : Nat) (x1 : Int32) (h : gz_H) (hf : gz_g (fX8_undo_0  a0 x1 h) Q) : gz_Ok G mX8_undo (d + 7, l0, s0, 0, 0) 0 [.ref a0, .int x1, .retAddr 0] [] h (gz_qi Q) := by
  unfold fX8_undo_0 at hf
  refine gz_iload_n (pc := 0) dX8_undo_0 rfl rfl ?_
  refine gz_if_lt (tgt := 15) (pc := 1) dX8_undo_1 rfl (fun c_1 => ?_) (fun c_1 => ?_)
  · have hf := gz_gT hf c_1
    refine gz_iconst (v := (-1 : Int32)) (pc := 15) dX8_undo_15 rfl ?_
    exact gz_irt (pc := 16) dX8_undo_16 rfl rfl hf
  · have hf := gz_gF hf c_1
    refine gz_iload_n (pc := 4) dX8_undo_4 rfl rfl ?_
    refine gz_aload_n (pc := 5) dX8_undo_5 rfl rfl ?_
    refine gz_gk hf (fun c_2 hf => ?_)
    refine gz_gb hf (fun r_3 er_3 hf => ?_)
    refine gz_getR (pc := 6) dX8_undo_6 fl_RX8_59 rfl (gz_shs c_2) er_3 ?_
    refine gz_gk hf (fun c_4 hf => ?_)
    refine gz_getI (pc := 9) dX8_undo_9 fl_RX8_99 rfl (gz_shs c_4) ?_
    refine gz_icmp_le (tgt := 17) (pc := 12) dX8_undo_12 rfl (fun c_5 => ?_) (fun c_5 => ?_)
    · have hf := gz_gT hf c_5
      refine gz_aload_n (pc := 17) dX8_undo_17 rfl rfl ?_
      refine gz_getR (pc := 18) dX8_undo_18 fl_RX8_59 rfl (gz_shs c_2) er_3 ?_
      refine gz_getI (pc := 21) dX8_undo_21 fl_RX8_99 rfl (gz_shs c_4) ?_
      refine gz_iload_n (pc := 24) dX8_undo_24 rfl rfl ?_
      refine gz_isub (pc := 25) dX8_undo_25 ?_
      refine gz_istore_n (lv := [.ref a0, .int x1, .int ((h.2.1 r_3 1) - x1)]) (pc := 26) dX8_undo_26 rfl (by decide) rfl ?_
      refine gz_aload_n (pc := 27) dX8_undo_27 rfl rfl ?_
      refine gz_getR (pc := 28) dX8_undo_28 fl_RX8_59 rfl (gz_shs c_2) er_3 ?_
      refine gz_iload_n (pc := 31) dX8_undo_31 rfl rfl ?_
      refine gz_putI (pc := 32) dX8_undo_32 fw_X8_undo_99 rfl rfl rfl (gz_shs c_4) ?_
      refine gz_nmH (fun h_6 eh_6 => ?_)
      have hf := gz_gl eh_6 hf
      refine gz_aload_n (pc := 35) dX8_undo_35 rfl rfl ?_
      refine gz_gk hf (fun c_9 hf => ?_)
      refine gz_cVV (av := []) (st := []) (pc := 36) dX8_undo_36 kl_RX8_146 rfl (gz_shs c_9) rfl rfl (Nat.le_of_ble_eq_true rfl) (by show d + 0 + 6 + 1 ≤ d + 7; omega) (sX8_repeatDeeds (d := d + 0) (gz_gc hf)) (fun _ h_7 hf => ?_)
      refine gz_iload_n (pc := 39) dX8_undo_39 rfl rfl ?_
      exact gz_irt (pc := 40) dX8_undo_40 rfl rfl hf
    · have hf := gz_gF hf c_5
      refine gz_iconst (v := (-1 : Int32)) (pc := 15) dX8_undo_15 rfl ?_
      exact gz_irt (pc := 16) dX8_undo_16 rfl rfl hf
def fX8_undo (a0 : Nat) (x1 : Int32) (h : gz_H) : Option (Int32 × gz_H) := fX8_undo_0 a0 x1 h
theorem sX8_undo {G : gz_G} {d : Nat} {a0 : Nat} {x1 : Int32} {h : gz_H} {Q : Int32 → gz_H → Prop} (hf : gz_g (fX8_undo a0 x1 h) Q) : gz_Cl G mX8_undo (d + 7) 0 0 [.ref a0, .int x1] h (gz_qi Q) := gz_cl_of (lo := [.ref a0, .int x1, .retAddr 0]) (by decide) rfl rfl (Nat.le_of_ble_eq_true rfl) (sX8_undo_0 a0 x1 h hf)
