theorem dX8_findings_0 : decode cX8_findings 0 = .ok (.iload_n 1, 1) := by decide +kernel
theorem dX8_findings_1 : decode cX8_findings 1 = .ok (.iconst 1, 1) := by decide +kernel
theorem dX8_findings_2 : decode cX8_findings 2 = .ok (.if_icmp .lt 8, 3) := by decide +kernel
theorem dX8_findings_5 : decode cX8_findings 5 = .ok (.iload_n 1, 1) := by decide +kernel
theorem dX8_findings_6 : decode cX8_findings 6 = .ok (.iconst 5, 1) := by decide +kernel
theorem dX8_findings_7 : decode cX8_findings 7 = .ok (.if_icmp .le 7, 3) := by decide +kernel
theorem dX8_findings_10 : decode cX8_findings 10 = .ok (.iconst (-1), 1) := by decide +kernel
theorem dX8_findings_11 : decode cX8_findings 11 = .ok (.goto 12, 3) := by decide +kernel
theorem dX8_findings_14 : decode cX8_findings 14 = .ok (.aload_n 0, 1) := by decide +kernel
theorem dX8_findings_15 : decode cX8_findings 15 = .ok (.getfield 31, 3) := by decide +kernel
theorem dX8_findings_18 : decode cX8_findings 18 = .ok (.getfield 318, 3) := by decide +kernel
theorem dX8_findings_21 : decode cX8_findings 21 = .ok (.iload_n 1, 1) := by decide +kernel
theorem dX8_findings_22 : decode cX8_findings 22 = .ok (.iaload, 1) := by decide +kernel
theorem dX8_findings_23 : decode cX8_findings 23 = .ok (.ireturn, 1) := by decide +kernel
def fX8_findings_10   (h : gz_H) : Option (Int32 × gz_H) :=
    some ((-1 : Int32), h)
set_option maxRecDepth 100000 in
set_option maxHeartbeats 1000000 in
theorem sX8_findings_10 {G : gz_G} {d l0 s0 : Nat} {Q : Int32 → gz_H → Prop}  (h : gz_H) (hf : gz_g (fX8_findings_10   h) Q) : gz_Ok G mX8_findings (d + 0, l0, s0, 0, 0) 10 [.retAddr 0, .retAddr 0] [] h (gz_qi Q) := by
  unfold fX8_findings_10 at hf
  refine gz_iconst (v := (-1 : Int32)) (pc := 10) dX8_findings_10 rfl ?_
  refine gz_goto (tgt := 23) (pc := 11) dX8_findings_11 rfl ?_
  exact gz_irt (pc := 23) dX8_findings_23 rfl rfl hf
def fX8_findings_0  (a0 : Nat) (x1 : Int32) (h : gz_H) : Option (Int32 × gz_H) :=
    if x1 < (1 : Int32) then (
     fX8_findings_10 h
    ) else (
     if x1 ≤ (5 : Int32) then (
      gz_ck (gz_sh h a0 8 19) <|
      gz_br (h.2.2.2 a0 3) fun r_4 =>
      gz_ck (gz_sh h r_4 0 2) <|
      gz_br (h.2.2.2 r_4 0) fun r_6 =>
      gz_ck (gz_inb h r_6 10 x1) <|
      some (h.2.1 r_6 x1.toNatClampNeg, h)
     ) else (
      fX8_findings_10 h
     )
    )
set_option maxRecDepth 100000 in
set_option maxHeartbeats 1000000 in
theorem sX8_findings_0 {G : gz_G} {d l0 s0 : Nat} {Q : Int32 → gz_H → Prop} (a0 : Nat) (x1 : Int32) (h : gz_H) (hf : gz_g (fX8_findings_0  a0 x1 h) Q) : gz_Ok G mX8_findings (d + 0, l0, s0, 0, 0) 0 [.ref a0, .int x1] [] h (gz_qi Q) := by
  unfold fX8_findings_0 at hf
  refine gz_iload_n (pc := 0) dX8_findings_0 rfl rfl ?_
  refine gz_iconst (v := (1 : Int32)) (pc := 1) dX8_findings_1 rfl ?_
  refine gz_icmp_lt (tgt := 10) (pc := 2) dX8_findings_2 rfl (fun c_1 => ?_) (fun c_1 => ?_)
  · have hf := gz_gT hf c_1
    refine gz_fg (lv := [.retAddr 0, .retAddr 0]) ⟨Or.inl rfl, ⟨Or.inl rfl, trivial⟩⟩ ?_
    exact sX8_findings_10 h hf
  · have hf := gz_gF hf c_1
    refine gz_iload_n (pc := 5) dX8_findings_5 rfl rfl ?_
    refine gz_iconst (v := (5 : Int32)) (pc := 6) dX8_findings_6 rfl ?_
    refine gz_icmp_le (tgt := 14) (pc := 7) dX8_findings_7 rfl (fun c_2 => ?_) (fun c_2 => ?_)
    · have hf := gz_gT hf c_2
      refine gz_aload_n (pc := 14) dX8_findings_14 rfl rfl ?_
      refine gz_gk hf (fun c_3 hf => ?_)
      refine gz_gb hf (fun r_4 er_4 hf => ?_)
      refine gz_getR (pc := 15) dX8_findings_15 fl_RX8_31 rfl (gz_shs c_3) er_4 ?_
      refine gz_gk hf (fun c_5 hf => ?_)
      refine gz_gb hf (fun r_6 er_6 hf => ?_)
      refine gz_getR (pc := 18) dX8_findings_18 fl_RX8_318 rfl (gz_shs c_5) er_6 ?_
      refine gz_iload_n (pc := 21) dX8_findings_21 rfl rfl ?_
      refine gz_gk hf (fun c_7 hf => ?_)
      refine gz_iald (pc := 22) dX8_findings_22 c_7 ?_
      exact gz_irt (pc := 23) dX8_findings_23 rfl rfl hf
    · have hf := gz_gF hf c_2
      refine gz_fg (lv := [.retAddr 0, .retAddr 0]) ⟨Or.inl rfl, ⟨Or.inl rfl, trivial⟩⟩ ?_
      exact sX8_findings_10 h hf
def fX8_findings (a0 : Nat) (x1 : Int32) (h : gz_H) : Option (Int32 × gz_H) := fX8_findings_0 a0 x1 h
theorem sX8_findings {G : gz_G} {d : Nat} {a0 : Nat} {x1 : Int32} {h : gz_H} {Q : Int32 → gz_H → Prop} (hf : gz_g (fX8_findings a0 x1 h) Q) : gz_Cl G mX8_findings (d + 0) 0 0 [.ref a0, .int x1] h (gz_qi Q) := gz_cl_of (lo := [.ref a0, .int x1]) (by decide) rfl rfl (Nat.le_of_ble_eq_true rfl) (sX8_findings_0 a0 x1 h hf)
theorem dX8_digest_0 : decode cX8_digest 0 = .ok (.ldc2_w 321, 3) := by decide +kernel
theorem dX8_digest_3 : decode cX8_digest 3 = .ok (.lstore_n 1, 1) := by decide +kernel
theorem dX8_digest_4 : decode cX8_digest 4 = .ok (.iconst 0, 1) := by decide +kernel
theorem dX8_digest_5 : decode cX8_digest 5 = .ok (.istore_n 3, 1) := by decide +kernel
theorem dX8_digest_6 : decode cX8_digest 6 = .ok (.iload_n 3, 1) := by decide +kernel
theorem dX8_digest_7 : decode cX8_digest 7 = .ok (.bipush 9, 2) := by decide +kernel
theorem dX8_digest_9 : decode cX8_digest 9 = .ok (.if_icmp .ge 22, 3) := by decide +kernel
theorem dX8_digest_12 : decode cX8_digest 12 = .ok (.ldc2_w 323, 3) := by decide +kernel
theorem dX8_digest_15 : decode cX8_digest 15 = .ok (.lload_n 1, 1) := by decide +kernel
theorem dX8_digest_16 : decode cX8_digest 16 = .ok (.lmul, 1) := by decide +kernel
theorem dX8_digest_17 : decode cX8_digest 17 = .ok (.aload_n 0, 1) := by decide +kernel
theorem dX8_digest_18 : decode cX8_digest 18 = .ok (.iload_n 3, 1) := by decide +kernel
theorem dX8_digest_19 : decode cX8_digest 19 = .ok (.invokevirtual 312, 3) := by decide +kernel
theorem dX8_digest_22 : decode cX8_digest 22 = .ok (.i2l, 1) := by decide +kernel
theorem dX8_digest_23 : decode cX8_digest 23 = .ok (.ladd, 1) := by decide +kernel
theorem dX8_digest_24 : decode cX8_digest 24 = .ok (.lstore_n 1, 1) := by decide +kernel
theorem dX8_digest_25 : decode cX8_digest 25 = .ok (.iinc 3 1, 3) := by decide +kernel
theorem dX8_digest_28 : decode cX8_digest 28 = .ok (.goto (-22), 3) := by decide +kernel
theorem dX8_digest_31 : decode cX8_digest 31 = .ok (.aload_n 0, 1) := by decide +kernel
theorem dX8_digest_32 : decode cX8_digest 32 = .ok (.getfield 70, 3) := by decide +kernel
theorem dX8_digest_35 : decode cX8_digest 35 = .ok (.lload_n 1, 1) := by decide +kernel
theorem dX8_digest_36 : decode cX8_digest 36 = .ok (.invokevirtual 325, 3) := by decide +kernel
theorem dX8_digest_39 : decode cX8_digest 39 = .ok (.lstore_n 1, 1) := by decide +kernel
theorem dX8_digest_40 : decode cX8_digest 40 = .ok (.iconst 0, 1) := by decide +kernel
theorem dX8_digest_41 : decode cX8_digest 41 = .ok (.istore_n 3, 1) := by decide +kernel
theorem dX8_digest_42 : decode cX8_digest 42 = .ok (.iload_n 3, 1) := by decide +kernel
theorem dX8_digest_43 : decode cX8_digest 43 = .ok (.iconst 3, 1) := by decide +kernel
theorem dX8_digest_44 : decode cX8_digest 44 = .ok (.if_icmp .ge 26, 3) := by decide +kernel
theorem dX8_digest_47 : decode cX8_digest 47 = .ok (.ldc2_w 323, 3) := by decide +kernel
theorem dX8_digest_50 : decode cX8_digest 50 = .ok (.lload_n 1, 1) := by decide +kernel
theorem dX8_digest_51 : decode cX8_digest 51 = .ok (.lmul, 1) := by decide +kernel
theorem dX8_digest_52 : decode cX8_digest 52 = .ok (.aload_n 0, 1) := by decide +kernel
theorem dX8_digest_53 : decode cX8_digest 53 = .ok (.getfield 63, 3) := by decide +kernel
theorem dX8_digest_56 : decode cX8_digest 56 = .ok (.iload_n 3, 1) := by decide +kernel
theorem dX8_digest_57 : decode cX8_digest 57 = .ok (.aaload, 1) := by decide +kernel
theorem dX8_digest_58 : decode cX8_digest 58 = .ok (.getfield 99, 3) := by decide +kernel
theorem dX8_digest_61 : decode cX8_digest 61 = .ok (.i2l, 1) := by decide +kernel
theorem dX8_digest_62 : decode cX8_digest 62 = .ok (.ladd, 1) := by decide +kernel
theorem dX8_digest_63 : decode cX8_digest 63 = .ok (.lstore_n 1, 1) := by decide +kernel
theorem dX8_digest_64 : decode cX8_digest 64 = .ok (.iinc 3 1, 3) := by decide +kernel
theorem dX8_digest_67 : decode cX8_digest 67 = .ok (.goto (-25), 3) := by decide +kernel
theorem dX8_digest_70 : decode cX8_digest 70 = .ok (.aload_n 0, 1) := by decide +kernel
theorem dX8_digest_71 : decode cX8_digest 71 = .ok (.getfield 18, 3) := by decide +kernel
theorem dX8_digest_74 : decode cX8_digest 74 = .ok (.aload_n 0, 1) := by decide +kernel
theorem dX8_digest_75 : decode cX8_digest 75 = .ok (.getfield 14, 3) := by decide +kernel
theorem dX8_digest_78 : decode cX8_digest 78 = .ok (.lload_n 1, 1) := by decide +kernel
theorem dX8_digest_79 : decode cX8_digest 79 = .ok (.invokevirtual 329, 3) := by decide +kernel
theorem dX8_digest_82 : decode cX8_digest 82 = .ok (.invokevirtual 329, 3) := by decide +kernel
theorem dX8_digest_85 : decode cX8_digest 85 = .ok (.lreturn, 1) := by decide +kernel
def fX8_digest_42  : Nat → Nat → Int64 → Int32 → gz_H → Option (Int64 × gz_H)
  | 0, _, _, _, _ => none
  | n + 1, a0, x1, x3, h =>
    if (3 : Int32) ≤ x3 then (
     gz_ck (gz_sh h a0 8 19) <|
     gz_br (h.2.2.2 a0 1) fun r_3 =>
     gz_br (h.2.2.2 a0 0) fun r_4 =>
     gz_ck (gz_sh h r_4 7 3) <|
     gz_b2 (fX7_digestFrom r_4 x1 h) fun y_6 h_5 =>
     gz_ck (gz_sh h_5 r_3 7 3) <|
     gz_b2 (fX7_digestFrom r_3 y_6 h_5) fun y_9 h_8 =>
     some (y_9, h_8)
    ) else (
     gz_ck (gz_sh h a0 8 19) <|
     gz_br (h.2.2.2 a0 8) fun r_12 =>
     gz_ck (gz_inb h r_12 12 x3) <|
     gz_br (h.2.2.2 r_12 x3.toNatClampNeg) fun r_14 =>
     gz_ck (gz_sh h r_14 3 2) <|
     fX8_digest_42 n a0 (((31 : Int64) * x1) + ((h.2.1 r_14 1).toInt64)) (x3 + 1) h
    )
set_option maxRecDepth 100000 in
set_option maxHeartbeats 1000000 in
theorem sX8_digest_42 {G : gz_G} {d l0 s0 : Nat} {Q : Int64 → gz_H → Prop} : ∀ (n : Nat) (a0 : Nat) (x1 : Int64) (x3 : Int32) (h : gz_H), gz_g (fX8_digest_42  n a0 x1 x3 h) Q → gz_Ok G mX8_digest (d + 4, l0, s0, 0, 0) 42 [.ref a0, .long x1, .retAddr 0, .int x3] [] h (gz_ql Q) := by
  intro n
  induction n with
  | zero => intro a0 x1 x3 h hf; exact False.elim hf
  | succ n ih =>
    intro a0 x1 x3 h hf
    rw [fX8_digest_42] at hf
    refine gz_iload_n (pc := 42) dX8_digest_42 rfl rfl ?_
    refine gz_iconst (v := (3 : Int32)) (pc := 43) dX8_digest_43 rfl ?_
    refine gz_icmp_ge (tgt := 70) (pc := 44) dX8_digest_44 rfl (fun c_1 => ?_) (fun c_1 => ?_)
    · have hf := gz_gT hf c_1
      refine gz_aload_n (pc := 70) dX8_digest_70 rfl rfl ?_
      refine gz_gk hf (fun c_2 hf => ?_)
      refine gz_gb hf (fun r_3 er_3 hf => ?_)
      refine gz_getR (pc := 71) dX8_digest_71 fl_RX8_18 rfl (gz_shs c_2) er_3 ?_
      refine gz_aload_n (pc := 74) dX8_digest_74 rfl rfl ?_
      refine gz_gb hf (fun r_4 er_4 hf => ?_)
      refine gz_getR (pc := 75) dX8_digest_75 fl_RX8_14 rfl (gz_shs c_2) er_4 ?_
      refine gz_lload_n (pc := 78) dX8_digest_78 rfl rfl ?_
      refine gz_gk hf (fun c_7 hf => ?_)
      refine gz_cVL (av := [.long x1]) (st := [.ref r_3]) (pc := 79) dX8_digest_79 kl_RX8_329 rfl (gz_shs c_7) rfl rfl (Nat.le_of_ble_eq_true rfl) (by show d + 3 + 0 + 1 ≤ d + 4; omega) (sX7_digestFrom (d := d + 3) (gz_gc hf)) (fun y_6 h_5 hf => ?_)
      refine gz_gk hf (fun c_10 hf => ?_)
      refine gz_cVL (av := [.long y_6]) (st := []) (pc := 82) dX8_digest_82 kl_RX8_329 rfl (gz_shs c_10) rfl rfl (Nat.le_of_ble_eq_true rfl) (by show d + 3 + 0 + 1 ≤ d + 4; omega) (sX7_digestFrom (d := d + 3) (gz_gc hf)) (fun y_9 h_8 hf => ?_)
      exact gz_lrt (pc := 85) dX8_digest_85 rfl hf
    · have hf := gz_gF hf c_1
      refine gz_ldc2 (v := (31 : Int64)) (pc := 47) dX8_digest_47 kc_RX8_323 ?_
      refine gz_lload_n (pc := 50) dX8_digest_50 rfl rfl ?_
      refine gz_lmul (pc := 51) dX8_digest_51 ?_
      refine gz_aload_n (pc := 52) dX8_digest_52 rfl rfl ?_
      refine gz_gk hf (fun c_11 hf => ?_)
      refine gz_gb hf (fun r_12 er_12 hf => ?_)
      refine gz_getR (pc := 53) dX8_digest_53 fl_RX8_63 rfl (gz_shs c_11) er_12 ?_
      refine gz_iload_n (pc := 56) dX8_digest_56 rfl rfl ?_
      refine gz_gk hf (fun c_13 hf => ?_)
      refine gz_gb hf (fun r_14 er_14 hf => ?_)
      refine gz_aald (Or.inr (Or.inl rfl)) (pc := 57) dX8_digest_57 c_13 er_14 ?_
      refine gz_gk hf (fun c_15 hf => ?_)
      refine gz_getI (pc := 58) dX8_digest_58 fl_RX8_99 rfl (gz_shs c_15) ?_
      refine gz_i2l (pc := 61) dX8_digest_61 ?_
      refine gz_ladd (pc := 62) dX8_digest_62 ?_
      refine gz_lstore_n (lv := [.ref a0, .long (((31 : Int64) * x1) + ((h.2.1 r_14 1).toInt64)), .retAddr 0, .int x3]) (pc := 63) dX8_digest_63 rfl (by decide) rfl ?_
      refine gz_iinc (v := x3 + 1) (lv := [.ref a0, .long (((31 : Int64) * x1) + ((h.2.1 r_14 1).toInt64)), .retAddr 0, .int (x3 + 1)]) (pc := 64) dX8_digest_64 rfl rfl (by decide) rfl ?_
      refine gz_goto (tgt := 42) (pc := 67) dX8_digest_67 rfl ?_
      exact ih a0 (((31 : Int64) * x1) + ((h.2.1 r_14 1).toInt64)) (x3 + 1) h hf
def fX8_digest_6  : Nat → Nat → Int64 → Int32 → gz_H → Option (Int64 × gz_H)
  | 0, _, _, _, _ => none
  | n + 1, a0, x1, x3, h =>
    if (9 : Int32) ≤ x3 then (
     gz_ck (gz_sh h a0 8 19) <|
     gz_br (h.2.2.2 a0 9) fun r_3 =>
     gz_ck (gz_sh h r_3 1 4) <|
     gz_b2 (fX1_digestFrom r_3 x1 h) fun y_5 h_4 =>
     fX8_digest_42 gz_fu a0 y_5 (0 : Int32) h_4
    ) else (
     gz_ck (gz_sh h a0 8 19) <|
     gz_b2 (fX8_countOf a0 x3 h) fun y_8 h_7 =>
     fX8_digest_6 n a0 (((31 : Int64) * x1) + y_8.toInt64) (x3 + 1) h_7
    )
set_option maxRecDepth 100000 in
set_option maxHeartbeats 1000000 in
theorem sX8_digest_6 {G : gz_G} {d l0 s0 : Nat} {Q : Int64 → gz_H → Prop} : ∀ (n : Nat) (a0 : Nat) (x1 : Int64) (x3 : Int32) (h : gz_H), gz_g (fX8_digest_6  n a0 x1 x3 h) Q → gz_Ok G mX8_digest (d + 4, l0, s0, 0, 0) 6 [.ref a0, .long x1, .retAddr 0, .int x3] [] h (gz_ql Q) := by
  intro n
  induction n with
  | zero => intro a0 x1 x3 h hf; exact False.elim hf
  | succ n ih =>
    intro a0 x1 x3 h hf
    rw [fX8_digest_6] at hf
    refine gz_iload_n (pc := 6) dX8_digest_6 rfl rfl ?_
    refine gz_bipush (v := (9 : Int32)) (pc := 7) dX8_digest_7 rfl ?_
    refine gz_icmp_ge (tgt := 31) (pc := 9) dX8_digest_9 rfl (fun c_1 => ?_) (fun c_1 => ?_)
    · have hf := gz_gT hf c_1
      refine gz_aload_n (pc := 31) dX8_digest_31 rfl rfl ?_
      refine gz_gk hf (fun c_2 hf => ?_)
      refine gz_gb hf (fun r_3 er_3 hf => ?_)
      refine gz_getR (pc := 32) dX8_digest_32 fl_RX8_70 rfl (gz_shs c_2) er_3 ?_
      refine gz_lload_n (pc := 35) dX8_digest_35 rfl rfl ?_
      refine gz_gk hf (fun c_6 hf => ?_)
      refine gz_cVL (av := [.long x1]) (st := []) (pc := 36) dX8_digest_36 kl_RX8_325 rfl (gz_shs c_6) rfl rfl (Nat.le_of_ble_eq_true rfl) (by show d + 0 + 3 + 1 ≤ d + 4; omega) (sX1_digestFrom (d := d + 0) (gz_gc hf)) (fun y_5 h_4 hf => ?_)
      refine gz_lstore_n (lv := [.ref a0, .long y_5, .retAddr 0, .int x3]) (pc := 39) dX8_digest_39 rfl (by decide) rfl ?_
      refine gz_iconst (v := (0 : Int32)) (pc := 40) dX8_digest_40 rfl ?_
      refine gz_istore_n (lv := [.ref a0, .long y_5, .retAddr 0, .int (0 : Int32)]) (pc := 41) dX8_digest_41 rfl (by decide) rfl ?_
      exact sX8_digest_42 gz_fu a0 y_5 (0 : Int32) h_4 hf
    · have hf := gz_gF hf c_1
      refine gz_ldc2 (v := (31 : Int64)) (pc := 12) dX8_digest_12 kc_RX8_323 ?_
      refine gz_lload_n (pc := 15) dX8_digest_15 rfl rfl ?_
      refine gz_lmul (pc := 16) dX8_digest_16 ?_
      refine gz_aload_n (pc := 17) dX8_digest_17 rfl rfl ?_
      refine gz_iload_n (pc := 18) dX8_digest_18 rfl rfl ?_
      refine gz_gk hf (fun c_9 hf => ?_)
      refine gz_cVI (av := [.int x3]) (st := [.long ((31 : Int64) * x1)]) (pc := 19) dX8_digest_19 kl_RX8_312 rfl (gz_shs c_9) rfl rfl (Nat.le_of_ble_eq_true rfl) (by show d + 1 + 2 + 1 ≤ d + 4; omega) (sX8_countOf (d := d + 1) (gz_gc hf)) (fun y_8 h_7 hf => ?_)
      refine gz_i2l (pc := 22) dX8_digest_22 ?_
      refine gz_ladd (pc := 23) dX8_digest_23 ?_
      refine gz_lstore_n (lv := [.ref a0, .long (((31 : Int64) * x1) + y_8.toInt64), .retAddr 0, .int x3]) (pc := 24) dX8_digest_24 rfl (by decide) rfl ?_
      refine gz_iinc (v := x3 + 1) (lv := [.ref a0, .long (((31 : Int64) * x1) + y_8.toInt64), .retAddr 0, .int (x3 + 1)]) (pc := 25) dX8_digest_25 rfl rfl (by decide) rfl ?_
      refine gz_goto (tgt := 6) (pc := 28) dX8_digest_28 rfl ?_
      exact ih a0 (((31 : Int64) * x1) + y_8.toInt64) (x3 + 1) h_7 hf
def fX8_digest_0  (a0 : Nat) (h : gz_H) : Option (Int64 × gz_H) :=
    fX8_digest_6 gz_fu a0 (17 : Int64) (0 : Int32) h
set_option maxRecDepth 100000 in
set_option maxHeartbeats 1000000 in
theorem sX8_digest_0 {G : gz_G} {d l0 s0 : Nat} {Q : Int64 → gz_H → Prop} (a0 : Nat) (h : gz_H) (hf : gz_g (fX8_digest_0  a0 h) Q) : gz_Ok G mX8_digest (d + 4, l0, s0, 0, 0) 0 [.ref a0, .retAddr 0, .retAddr 0, .retAddr 0] [] h (gz_ql Q) := by
  unfold fX8_digest_0 at hf
  refine gz_ldc2 (v := (17 : Int64)) (pc := 0) dX8_digest_0 kc_RX8_321 ?_
  refine gz_lstore_n (lv := [.ref a0, .long (17 : Int64), .retAddr 0, .retAddr 0]) (pc := 3) dX8_digest_3 rfl (by decide) rfl ?_
  refine gz_iconst (v := (0 : Int32)) (pc := 4) dX8_digest_4 rfl ?_
  refine gz_istore_n (lv := [.ref a0, .long (17 : Int64), .retAddr 0, .int (0 : Int32)]) (pc := 5) dX8_digest_5 rfl (by decide) rfl ?_
  exact sX8_digest_6 gz_fu a0 (17 : Int64) (0 : Int32) h hf
def fX8_digest (a0 : Nat) (h : gz_H) : Option (Int64 × gz_H) := fX8_digest_0 a0 h
theorem sX8_digest {G : gz_G} {d : Nat} {a0 : Nat} {h : gz_H} {Q : Int64 → gz_H → Prop} (hf : gz_g (fX8_digest a0 h) Q) : gz_Cl G mX8_digest (d + 4) 0 0 [.ref a0] h (gz_ql Q) := gz_cl_of (lo := [.ref a0, .retAddr 0, .retAddr 0, .retAddr 0]) (by decide) rfl rfl (Nat.le_of_ble_eq_true rfl) (sX8_digest_0 a0 h hf)
theorem dX9_init_0 : decode cX9_init 0 = .ok (.aload_n 0, 1) := by decide +kernel
theorem dX9_init_1 : decode cX9_init 1 = .ok (.invokespecial 1, 3) := by decide +kernel
theorem dX9_init_4 : decode cX9_init 4 = .ok (.aload_n 0, 1) := by decide +kernel
theorem dX9_init_5 : decode cX9_init 5 = .ok (.sipush 9024, 3) := by decide +kernel
theorem dX9_init_8 : decode cX9_init 8 = .ok (.newarray .int, 2) := by decide +kernel
theorem dX9_init_10 : decode cX9_init 10 = .ok (.putfield 7, 3) := by decide +kernel
theorem dX9_init_13 : decode cX9_init 13 = .ok (.aload_n 0, 1) := by decide +kernel
theorem dX9_init_14 : decode cX9_init 14 = .ok (.bipush 8, 2) := by decide +kernel
theorem dX9_init_16 : decode cX9_init 16 = .ok (.newarray .int, 2) := by decide +kernel
theorem dX9_init_18 : decode cX9_init 18 = .ok (.putfield 13, 3) := by decide +kernel
theorem dX9_init_21 : decode cX9_init 21 = .ok (.aload_n 0, 1) := by decide +kernel
theorem dX9_init_22 : decode cX9_init 22 = .ok (.bipush 6, 2) := by decide +kernel
theorem dX9_init_24 : decode cX9_init 24 = .ok (.newarray .int, 2) := by decide +kernel
theorem dX9_init_26 : decode cX9_init 26 = .ok (.putfield 16, 3) := by decide +kernel
theorem dX9_init_29 : decode cX9_init 29 = .ok (.aload_n 0, 1) := by decide +kernel
theorem dX9_init_30 : decode cX9_init 30 = .ok (.bipush 6, 2) := by decide +kernel
theorem dX9_init_32 : decode cX9_init 32 = .ok (.newarray .int, 2) := by decide +kernel
theorem dX9_init_34 : decode cX9_init 34 = .ok (.putfield 19, 3) := by decide +kernel
theorem dX9_init_37 : decode cX9_init 37 = .ok (.aload_n 0, 1) := by decide +kernel
theorem dX9_init_38 : decode cX9_init 38 = .ok (.bipush 6, 2) := by decide +kernel
theorem dX9_init_40 : decode cX9_init 40 = .ok (.newarray .int, 2) := by decide +kernel
theorem dX9_init_42 : decode cX9_init 42 = .ok (.putfield 22, 3) := by decide +kernel
theorem dX9_init_45 : decode cX9_init 45 = .ok (.aload_n 0, 1) := by decide +kernel
theorem dX9_init_46 : decode cX9_init 46 = .ok (.bipush 6, 2) := by decide +kernel
theorem dX9_init_48 : decode cX9_init 48 = .ok (.newarray .int, 2) := by decide +kernel
theorem dX9_init_50 : decode cX9_init 50 = .ok (.dup, 1) := by decide +kernel
theorem dX9_init_51 : decode cX9_init 51 = .ok (.iconst 0, 1) := by decide +kernel
theorem dX9_init_52 : decode cX9_init 52 = .ok (.iconst (-1), 1) := by decide +kernel
theorem dX9_init_53 : decode cX9_init 53 = .ok (.iastore, 1) := by decide +kernel
theorem dX9_init_54 : decode cX9_init 54 = .ok (.dup, 1) := by decide +kernel
theorem dX9_init_55 : decode cX9_init 55 = .ok (.iconst 1, 1) := by decide +kernel
theorem dX9_init_56 : decode cX9_init 56 = .ok (.iconst (-1), 1) := by decide +kernel
theorem dX9_init_57 : decode cX9_init 57 = .ok (.iastore, 1) := by decide +kernel
theorem dX9_init_58 : decode cX9_init 58 = .ok (.dup, 1) := by decide +kernel
theorem dX9_init_59 : decode cX9_init 59 = .ok (.iconst 2, 1) := by decide +kernel
theorem dX9_init_60 : decode cX9_init 60 = .ok (.iconst (-1), 1) := by decide +kernel
theorem dX9_init_61 : decode cX9_init 61 = .ok (.iastore, 1) := by decide +kernel
theorem dX9_init_62 : decode cX9_init 62 = .ok (.dup, 1) := by decide +kernel
theorem dX9_init_63 : decode cX9_init 63 = .ok (.iconst 3, 1) := by decide +kernel
theorem dX9_init_64 : decode cX9_init 64 = .ok (.iconst (-1), 1) := by decide +kernel
theorem dX9_init_65 : decode cX9_init 65 = .ok (.iastore, 1) := by decide +kernel
theorem dX9_init_66 : decode cX9_init 66 = .ok (.dup, 1) := by decide +kernel
theorem dX9_init_67 : decode cX9_init 67 = .ok (.iconst 4, 1) := by decide +kernel
theorem dX9_init_68 : decode cX9_init 68 = .ok (.iconst (-1), 1) := by decide +kernel
theorem dX9_init_69 : decode cX9_init 69 = .ok (.iastore, 1) := by decide +kernel
theorem dX9_init_70 : decode cX9_init 70 = .ok (.dup, 1) := by decide +kernel
theorem dX9_init_71 : decode cX9_init 71 = .ok (.iconst 5, 1) := by decide +kernel
theorem dX9_init_72 : decode cX9_init 72 = .ok (.iconst (-1), 1) := by decide +kernel
theorem dX9_init_73 : decode cX9_init 73 = .ok (.iastore, 1) := by decide +kernel
theorem dX9_init_74 : decode cX9_init 74 = .ok (.putfield 25, 3) := by decide +kernel
theorem dX9_init_77 : decode cX9_init 77 = .ok (.aload_n 0, 1) := by decide +kernel
theorem dX9_init_78 : decode cX9_init 78 = .ok (.sipush 240, 3) := by decide +kernel
theorem dX9_init_81 : decode cX9_init 81 = .ok (.newarray .int, 2) := by decide +kernel
theorem dX9_init_83 : decode cX9_init 83 = .ok (.putfield 28, 3) := by decide +kernel
theorem dX9_init_86 : decode cX9_init 86 = .ok (.aload_n 0, 1) := by decide +kernel
theorem dX9_init_87 : decode cX9_init 87 = .ok (.iconst 4, 1) := by decide +kernel
theorem dX9_init_88 : decode cX9_init 88 = .ok (.newarray .int, 2) := by decide +kernel
theorem dX9_init_90 : decode cX9_init 90 = .ok (.dup, 1) := by decide +kernel
theorem dX9_init_91 : decode cX9_init 91 = .ok (.iconst 0, 1) := by decide +kernel
theorem dX9_init_92 : decode cX9_init 92 = .ok (.iconst (-1), 1) := by decide +kernel
theorem dX9_init_93 : decode cX9_init 93 = .ok (.iastore, 1) := by decide +kernel
theorem dX9_init_94 : decode cX9_init 94 = .ok (.dup, 1) := by decide +kernel
theorem dX9_init_95 : decode cX9_init 95 = .ok (.iconst 1, 1) := by decide +kernel
theorem dX9_init_96 : decode cX9_init 96 = .ok (.iconst (-1), 1) := by decide +kernel
theorem dX9_init_97 : decode cX9_init 97 = .ok (.iastore, 1) := by decide +kernel
theorem dX9_init_98 : decode cX9_init 98 = .ok (.dup, 1) := by decide +kernel
theorem dX9_init_99 : decode cX9_init 99 = .ok (.iconst 2, 1) := by decide +kernel
theorem dX9_init_100 : decode cX9_init 100 = .ok (.iconst (-1), 1) := by decide +kernel
theorem dX9_init_101 : decode cX9_init 101 = .ok (.iastore, 1) := by decide +kernel
theorem dX9_init_102 : decode cX9_init 102 = .ok (.dup, 1) := by decide +kernel
theorem dX9_init_103 : decode cX9_init 103 = .ok (.iconst 3, 1) := by decide +kernel
theorem dX9_init_104 : decode cX9_init 104 = .ok (.iconst (-1), 1) := by decide +kernel
theorem dX9_init_105 : decode cX9_init 105 = .ok (.iastore, 1) := by decide +kernel
theorem dX9_init_106 : decode cX9_init 106 = .ok (.putfield 31, 3) := by decide +kernel
theorem dX9_init_109 : decode cX9_init 109 = .ok (.aload_n 0, 1) := by decide +kernel
theorem dX9_init_110 : decode cX9_init 110 = .ok (.sipush 320, 3) := by decide +kernel
theorem dX9_init_113 : decode cX9_init 113 = .ok (.newarray .int, 2) := by decide +kernel
theorem dX9_init_115 : decode cX9_init 115 = .ok (.putfield 34, 3) := by decide +kernel
theorem dX9_init_118 : decode cX9_init 118 = .ok (.aload_n 0, 1) := by decide +kernel
theorem dX9_init_119 : decode cX9_init 119 = .ok (.lconst 1, 1) := by decide +kernel
theorem dX9_init_120 : decode cX9_init 120 = .ok (.putfield 37, 3) := by decide +kernel
theorem dX9_init_123 : decode cX9_init 123 = .ok (.aload_n 0, 1) := by decide +kernel
theorem dX9_init_124 : decode cX9_init 124 = .ok (.bipush 6, 2) := by decide +kernel
theorem dX9_init_126 : decode cX9_init 126 = .ok (.newarray .int, 2) := by decide +kernel
theorem dX9_init_128 : decode cX9_init 128 = .ok (.putfield 41, 3) := by decide +kernel
theorem dX9_init_131 : decode cX9_init 131 = .ok (.aload_n 0, 1) := by decide +kernel
theorem dX9_init_132 : decode cX9_init 132 = .ok (.bipush 8, 2) := by decide +kernel
theorem dX9_init_134 : decode cX9_init 134 = .ok (.newarray .int, 2) := by decide +kernel
theorem dX9_init_136 : decode cX9_init 136 = .ok (.putfield 44, 3) := by decide +kernel
theorem dX9_init_139 : decode cX9_init 139 = .ok (.aload_n 0, 1) := by decide +kernel
theorem dX9_init_140 : decode cX9_init 140 = .ok (.bipush 18, 2) := by decide +kernel
theorem dX9_init_142 : decode cX9_init 142 = .ok (.newarray .int, 2) := by decide +kernel
theorem dX9_init_144 : decode cX9_init 144 = .ok (.putfield 47, 3) := by decide +kernel
theorem dX9_init_147 : decode cX9_init 147 = .ok (.aload_n 0, 1) := by decide +kernel
theorem dX9_init_148 : decode cX9_init 148 = .ok (.bipush 6, 2) := by decide +kernel
theorem dX9_init_150 : decode cX9_init 150 = .ok (.newarray .int, 2) := by decide +kernel
theorem dX9_init_152 : decode cX9_init 152 = .ok (.putfield 50, 3) := by decide +kernel
theorem dX9_init_155 : decode cX9_init 155 = .ok (.aload_n 0, 1) := by decide +kernel
theorem dX9_init_156 : decode cX9_init 156 = .ok (.bipush 48, 2) := by decide +kernel
theorem dX9_init_158 : decode cX9_init 158 = .ok (.newarray .int, 2) := by decide +kernel
theorem dX9_init_160 : decode cX9_init 160 = .ok (.putfield 53, 3) := by decide +kernel
theorem dX9_init_163 : decode cX9_init 163 = .ok (.aload_n 0, 1) := by decide +kernel
theorem dX9_init_164 : decode cX9_init 164 = .ok (.bipush 8, 2) := by decide +kernel
theorem dX9_init_166 : decode cX9_init 166 = .ok (.newarray .int, 2) := by decide +kernel
theorem dX9_init_168 : decode cX9_init 168 = .ok (.putfield 56, 3) := by decide +kernel
theorem dX9_init_171 : decode cX9_init 171 = .ok (.aload_n 0, 1) := by decide +kernel
theorem dX9_init_172 : decode cX9_init 172 = .ok (.bipush 36, 2) := by decide +kernel
theorem dX9_init_174 : decode cX9_init 174 = .ok (.newarray .int, 2) := by decide +kernel
theorem dX9_init_176 : decode cX9_init 176 = .ok (.putfield 59, 3) := by decide +kernel
theorem dX9_init_179 : decode cX9_init 179 = .ok (.aload_n 0, 1) := by decide +kernel
theorem dX9_init_180 : decode cX9_init 180 = .ok (.sipush 256, 3) := by decide +kernel
theorem dX9_init_183 : decode cX9_init 183 = .ok (.newarray .int, 2) := by decide +kernel
theorem dX9_init_185 : decode cX9_init 185 = .ok (.putfield 62, 3) := by decide +kernel
theorem dX9_init_188 : decode cX9_init 188 = .ok (.iconst 1, 1) := by decide +kernel
theorem dX9_init_189 : decode cX9_init 189 = .ok (.istore_n 1, 1) := by decide +kernel
theorem dX9_init_190 : decode cX9_init 190 = .ok (.iload_n 1, 1) := by decide +kernel
theorem dX9_init_191 : decode cX9_init 191 = .ok (.iconst 4, 1) := by decide +kernel
theorem dX9_init_192 : decode cX9_init 192 = .ok (.if_icmp .ge 22, 3) := by decide +kernel
theorem dX9_init_195 : decode cX9_init 195 = .ok (.aload_n 0, 1) := by decide +kernel
theorem dX9_init_196 : decode cX9_init 196 = .ok (.getfield 7, 3) := by decide +kernel
theorem dX9_init_199 : decode cX9_init 199 = .ok (.sipush 2256, 3) := by decide +kernel
theorem dX9_init_202 : decode cX9_init 202 = .ok (.iload_n 1, 1) := by decide +kernel
theorem dX9_init_203 : decode cX9_init 203 = .ok (.imul, 1) := by decide +kernel
theorem dX9_init_204 : decode cX9_init 204 = .ok (.iconst 0, 1) := by decide +kernel
theorem dX9_init_205 : decode cX9_init 205 = .ok (.iadd, 1) := by decide +kernel
theorem dX9_init_206 : decode cX9_init 206 = .ok (.iconst (-1), 1) := by decide +kernel
theorem dX9_init_207 : decode cX9_init 207 = .ok (.iastore, 1) := by decide +kernel
theorem dX9_init_208 : decode cX9_init 208 = .ok (.iinc 1 1, 3) := by decide +kernel
theorem dX9_init_211 : decode cX9_init 211 = .ok (.goto (-21), 3) := by decide +kernel
theorem dX9_init_214 : decode cX9_init 214 = .ok (.return_, 1) := by decide +kernel
def fX9_init_190 (l0 s0 mc ms : Nat) : Nat → Nat → Int32 → gz_H → Option (Unit × gz_H)
  | 0, _, _, _ => none
  | n + 1, a0, x1, h =>
    if (4 : Int32) ≤ x1 then (
     gz_ck (gz_dc (l0 + mc = h.1.length ∧ s0 + ms = gz_ss h.1)) <|
     some ((), h)
    ) else (
     gz_ck (gz_sh h a0 9 29) <|
     gz_br (h.2.2.2 a0 0) fun r_4 =>
     gz_ck (gz_inb h r_4 10 (((2256 : Int32) * x1) + (0 : Int32))) <|
     gz_lt (uI h r_4 (((2256 : Int32) * x1) + (0 : Int32)).toNatClampNeg (-1 : Int32)) fun h_6 =>
     fX9_init_190 l0 s0 mc ms n a0 (x1 + 1) h_6
    )
set_option maxRecDepth 100000 in
set_option maxHeartbeats 1000000 in
theorem sX9_init_190 {G : gz_G} {d l0 s0 mc ms : Nat} {Q : Unit → gz_H → Prop} : ∀ (n : Nat) (a0 : Nat) (x1 : Int32) (h : gz_H), gz_g (fX9_init_190 l0 s0 mc ms n a0 x1 h) Q → gz_Ok G mX9_init (d + 1, l0, s0, mc, ms) 190 [.ref a0, .int x1] [] h (gz_qu Q) := by
  intro n
  induction n with
  | zero => intro a0 x1 h hf; exact False.elim hf
  | succ n ih =>
    intro a0 x1 h hf
    rw [fX9_init_190] at hf
    refine gz_iload_n (pc := 190) dX9_init_190 rfl rfl ?_
    refine gz_iconst (v := (4 : Int32)) (pc := 191) dX9_init_191 rfl ?_
    refine gz_icmp_ge (tgt := 214) (pc := 192) dX9_init_192 rfl (fun c_1 => ?_) (fun c_1 => ?_)
    · have hf := gz_gT hf c_1
      refine gz_gk hf (fun c_2 hf => ?_)
      exact gz_uretA (pc := 214) dX9_init_214 rfl (gz_dcs c_2).1 (gz_dcs c_2).2 hf
    · have hf := gz_gF hf c_1
      refine gz_aload_n (pc := 195) dX9_init_195 rfl rfl ?_
      refine gz_gk hf (fun c_3 hf => ?_)
      refine gz_gb hf (fun r_4 er_4 hf => ?_)
      refine gz_getR (pc := 196) dX9_init_196 fl_RX9_7 rfl (gz_shs c_3) er_4 ?_
      refine gz_sipush (v := (2256 : Int32)) (pc := 199) dX9_init_199 rfl ?_
      refine gz_iload_n (pc := 202) dX9_init_202 rfl rfl ?_
      refine gz_imul (pc := 203) dX9_init_203 ?_
      refine gz_iconst (v := (0 : Int32)) (pc := 204) dX9_init_204 rfl ?_
      refine gz_iadd (pc := 205) dX9_init_205 ?_
      refine gz_iconst (v := (-1 : Int32)) (pc := 206) dX9_init_206 rfl ?_
      refine gz_gk hf (fun c_5 hf => ?_)
      refine gz_iast (pc := 207) dX9_init_207 c_5 ?_
      refine gz_nmH (fun h_6 eh_6 => ?_)
      have hf := gz_gl eh_6 hf
      refine gz_iinc (v := x1 + 1) (lv := [.ref a0, .int (x1 + 1)]) (pc := 208) dX9_init_208 rfl rfl (by decide) rfl ?_
      refine gz_goto (tgt := 190) (pc := 211) dX9_init_211 rfl ?_
      exact ih a0 (x1 + 1) h_6 hf
def fX9_init_0 (l0 s0 mc ms : Nat) (a0 : Nat) (h : gz_H) : Option (Unit × gz_H) :=
    gz_ck (gz_dc (¬ (9024 : Int32) < 0 ∧ h.1.length < 999999 ∧ (9024 : Int32).toNatClampNeg ≤ 100000 ∧ (h.1.length + 1 ≤ l0 + mc ∧ gz_ss h.1 + (9024 : Int32).toNatClampNeg ≤ s0 + ms))) <|
    gz_lt (gz_al h (10, (9024 : Int32).toNatClampNeg)) fun h_2 =>
    gz_ck (gz_sh h_2 a0 9 29) <|
    gz_lt (uR h_2 a0 0 (some h.1.length)) fun h_4 =>
    gz_ck (gz_dc (¬ (8 : Int32) < 0 ∧ h_4.1.length < 999999 ∧ (8 : Int32).toNatClampNeg ≤ 100000 ∧ (h_4.1.length + 1 ≤ l0 + mc ∧ gz_ss h_4.1 + (8 : Int32).toNatClampNeg ≤ s0 + ms))) <|
    gz_lt (gz_al h_4 (10, (8 : Int32).toNatClampNeg)) fun h_6 =>
    gz_ck (gz_sh h_6 a0 9 29) <|
    gz_lt (uR h_6 a0 2 (some h_4.1.length)) fun h_8 =>
    gz_ck (gz_dc (¬ (6 : Int32) < 0 ∧ h_8.1.length < 999999 ∧ (6 : Int32).toNatClampNeg ≤ 100000 ∧ (h_8.1.length + 1 ≤ l0 + mc ∧ gz_ss h_8.1 + (6 : Int32).toNatClampNeg ≤ s0 + ms))) <|
    gz_lt (gz_al h_8 (10, (6 : Int32).toNatClampNeg)) fun h_10 =>
    gz_ck (gz_sh h_10 a0 9 29) <|
    gz_lt (uR h_10 a0 4 (some h_8.1.length)) fun h_12 =>
    gz_ck (gz_dc (¬ (6 : Int32) < 0 ∧ h_12.1.length < 999999 ∧ (6 : Int32).toNatClampNeg ≤ 100000 ∧ (h_12.1.length + 1 ≤ l0 + mc ∧ gz_ss h_12.1 + (6 : Int32).toNatClampNeg ≤ s0 + ms))) <|
    gz_lt (gz_al h_12 (10, (6 : Int32).toNatClampNeg)) fun h_14 =>
    gz_ck (gz_sh h_14 a0 9 29) <|
    gz_lt (uR h_14 a0 5 (some h_12.1.length)) fun h_16 =>
    gz_ck (gz_dc (¬ (6 : Int32) < 0 ∧ h_16.1.length < 999999 ∧ (6 : Int32).toNatClampNeg ≤ 100000 ∧ (h_16.1.length + 1 ≤ l0 + mc ∧ gz_ss h_16.1 + (6 : Int32).toNatClampNeg ≤ s0 + ms))) <|
    gz_lt (gz_al h_16 (10, (6 : Int32).toNatClampNeg)) fun h_18 =>
    gz_ck (gz_sh h_18 a0 9 29) <|
    gz_lt (uR h_18 a0 6 (some h_16.1.length)) fun h_20 =>
    gz_ck (gz_dc (¬ (6 : Int32) < 0 ∧ h_20.1.length < 999999 ∧ (6 : Int32).toNatClampNeg ≤ 100000 ∧ (h_20.1.length + 1 ≤ l0 + mc ∧ gz_ss h_20.1 + (6 : Int32).toNatClampNeg ≤ s0 + ms))) <|
    gz_lt (gz_al h_20 (10, (6 : Int32).toNatClampNeg)) fun h_22 =>
    gz_ck (gz_inb h_22 h_20.1.length 10 (0 : Int32)) <|
    gz_lt (uI h_22 h_20.1.length (0 : Int32).toNatClampNeg (-1 : Int32)) fun h_24 =>
    gz_ck (gz_inb h_24 h_20.1.length 10 (1 : Int32)) <|
    gz_lt (uI h_24 h_20.1.length (1 : Int32).toNatClampNeg (-1 : Int32)) fun h_26 =>
    gz_ck (gz_inb h_26 h_20.1.length 10 (2 : Int32)) <|
    gz_lt (uI h_26 h_20.1.length (2 : Int32).toNatClampNeg (-1 : Int32)) fun h_28 =>
    gz_ck (gz_inb h_28 h_20.1.length 10 (3 : Int32)) <|
    gz_lt (uI h_28 h_20.1.length (3 : Int32).toNatClampNeg (-1 : Int32)) fun h_30 =>
    gz_ck (gz_inb h_30 h_20.1.length 10 (4 : Int32)) <|
    gz_lt (uI h_30 h_20.1.length (4 : Int32).toNatClampNeg (-1 : Int32)) fun h_32 =>
    gz_ck (gz_inb h_32 h_20.1.length 10 (5 : Int32)) <|
    gz_lt (uI h_32 h_20.1.length (5 : Int32).toNatClampNeg (-1 : Int32)) fun h_34 =>
    gz_ck (gz_sh h_34 a0 9 29) <|
    gz_lt (uR h_34 a0 7 (some h_20.1.length)) fun h_36 =>
    gz_ck (gz_dc (¬ (240 : Int32) < 0 ∧ h_36.1.length < 999999 ∧ (240 : Int32).toNatClampNeg ≤ 100000 ∧ (h_36.1.length + 1 ≤ l0 + mc ∧ gz_ss h_36.1 + (240 : Int32).toNatClampNeg ≤ s0 + ms))) <|
    gz_lt (gz_al h_36 (10, (240 : Int32).toNatClampNeg)) fun h_38 =>
    gz_ck (gz_sh h_38 a0 9 29) <|
    gz_lt (uR h_38 a0 8 (some h_36.1.length)) fun h_40 =>
    gz_ck (gz_dc (¬ (4 : Int32) < 0 ∧ h_40.1.length < 999999 ∧ (4 : Int32).toNatClampNeg ≤ 100000 ∧ (h_40.1.length + 1 ≤ l0 + mc ∧ gz_ss h_40.1 + (4 : Int32).toNatClampNeg ≤ s0 + ms))) <|
    gz_lt (gz_al h_40 (10, (4 : Int32).toNatClampNeg)) fun h_42 =>
    gz_ck (gz_inb h_42 h_40.1.length 10 (0 : Int32)) <|
    gz_lt (uI h_42 h_40.1.length (0 : Int32).toNatClampNeg (-1 : Int32)) fun h_44 =>
    gz_ck (gz_inb h_44 h_40.1.length 10 (1 : Int32)) <|
    gz_lt (uI h_44 h_40.1.length (1 : Int32).toNatClampNeg (-1 : Int32)) fun h_46 =>
    gz_ck (gz_inb h_46 h_40.1.length 10 (2 : Int32)) <|
    gz_lt (uI h_46 h_40.1.length (2 : Int32).toNatClampNeg (-1 : Int32)) fun h_48 =>
    gz_ck (gz_inb h_48 h_40.1.length 10 (3 : Int32)) <|
    gz_lt (uI h_48 h_40.1.length (3 : Int32).toNatClampNeg (-1 : Int32)) fun h_50 =>
    gz_ck (gz_sh h_50 a0 9 29) <|
    gz_lt (uR h_50 a0 9 (some h_40.1.length)) fun h_52 =>
    gz_ck (gz_dc (¬ (320 : Int32) < 0 ∧ h_52.1.length < 999999 ∧ (320 : Int32).toNatClampNeg ≤ 100000 ∧ (h_52.1.length + 1 ≤ l0 + mc ∧ gz_ss h_52.1 + (320 : Int32).toNatClampNeg ≤ s0 + ms))) <|
    gz_lt (gz_al h_52 (10, (320 : Int32).toNatClampNeg)) fun h_54 =>
    gz_ck (gz_sh h_54 a0 9 29) <|
    gz_lt (uR h_54 a0 10 (some h_52.1.length)) fun h_56 =>
    gz_ck (gz_sh h_56 a0 9 29) <|
    gz_lt (uL h_56 a0 13 (1 : Int64)) fun h_58 =>
    gz_ck (gz_dc (¬ (6 : Int32) < 0 ∧ h_58.1.length < 999999 ∧ (6 : Int32).toNatClampNeg ≤ 100000 ∧ (h_58.1.length + 1 ≤ l0 + mc ∧ gz_ss h_58.1 + (6 : Int32).toNatClampNeg ≤ s0 + ms))) <|
    gz_lt (gz_al h_58 (10, (6 : Int32).toNatClampNeg)) fun h_60 =>
    gz_ck (gz_sh h_60 a0 9 29) <|
    gz_lt (uR h_60 a0 15 (some h_58.1.length)) fun h_62 =>
    gz_ck (gz_dc (¬ (8 : Int32) < 0 ∧ h_62.1.length < 999999 ∧ (8 : Int32).toNatClampNeg ≤ 100000 ∧ (h_62.1.length + 1 ≤ l0 + mc ∧ gz_ss h_62.1 + (8 : Int32).toNatClampNeg ≤ s0 + ms))) <|
    gz_lt (gz_al h_62 (10, (8 : Int32).toNatClampNeg)) fun h_64 =>
    gz_ck (gz_sh h_64 a0 9 29) <|
    gz_lt (uR h_64 a0 19 (some h_62.1.length)) fun h_66 =>
    gz_ck (gz_dc (¬ (18 : Int32) < 0 ∧ h_66.1.length < 999999 ∧ (18 : Int32).toNatClampNeg ≤ 100000 ∧ (h_66.1.length + 1 ≤ l0 + mc ∧ gz_ss h_66.1 + (18 : Int32).toNatClampNeg ≤ s0 + ms))) <|
    gz_lt (gz_al h_66 (10, (18 : Int32).toNatClampNeg)) fun h_68 =>
    gz_ck (gz_sh h_68 a0 9 29) <|
    gz_lt (uR h_68 a0 21 (some h_66.1.length)) fun h_70 =>
    gz_ck (gz_dc (¬ (6 : Int32) < 0 ∧ h_70.1.length < 999999 ∧ (6 : Int32).toNatClampNeg ≤ 100000 ∧ (h_70.1.length + 1 ≤ l0 + mc ∧ gz_ss h_70.1 + (6 : Int32).toNatClampNeg ≤ s0 + ms))) <|
    gz_lt (gz_al h_70 (10, (6 : Int32).toNatClampNeg)) fun h_72 =>
    gz_ck (gz_sh h_72 a0 9 29) <|
    gz_lt (uR h_72 a0 22 (some h_70.1.length)) fun h_74 =>
    gz_ck (gz_dc (¬ (48 : Int32) < 0 ∧ h_74.1.length < 999999 ∧ (48 : Int32).toNatClampNeg ≤ 100000 ∧ (h_74.1.length + 1 ≤ l0 + mc ∧ gz_ss h_74.1 + (48 : Int32).toNatClampNeg ≤ s0 + ms))) <|
    gz_lt (gz_al h_74 (10, (48 : Int32).toNatClampNeg)) fun h_76 =>
    gz_ck (gz_sh h_76 a0 9 29) <|
    gz_lt (uR h_76 a0 23 (some h_74.1.length)) fun h_78 =>
    gz_ck (gz_dc (¬ (8 : Int32) < 0 ∧ h_78.1.length < 999999 ∧ (8 : Int32).toNatClampNeg ≤ 100000 ∧ (h_78.1.length + 1 ≤ l0 + mc ∧ gz_ss h_78.1 + (8 : Int32).toNatClampNeg ≤ s0 + ms))) <|
    gz_lt (gz_al h_78 (10, (8 : Int32).toNatClampNeg)) fun h_80 =>
    gz_ck (gz_sh h_80 a0 9 29) <|
    gz_lt (uR h_80 a0 26 (some h_78.1.length)) fun h_82 =>
    gz_ck (gz_dc (¬ (36 : Int32) < 0 ∧ h_82.1.length < 999999 ∧ (36 : Int32).toNatClampNeg ≤ 100000 ∧ (h_82.1.length + 1 ≤ l0 + mc ∧ gz_ss h_82.1 + (36 : Int32).toNatClampNeg ≤ s0 + ms))) <|
    gz_lt (gz_al h_82 (10, (36 : Int32).toNatClampNeg)) fun h_84 =>
    gz_ck (gz_sh h_84 a0 9 29) <|
    gz_lt (uR h_84 a0 27 (some h_82.1.length)) fun h_86 =>
    gz_ck (gz_dc (¬ (256 : Int32) < 0 ∧ h_86.1.length < 999999 ∧ (256 : Int32).toNatClampNeg ≤ 100000 ∧ (h_86.1.length + 1 ≤ l0 + mc ∧ gz_ss h_86.1 + (256 : Int32).toNatClampNeg ≤ s0 + ms))) <|
    gz_lt (gz_al h_86 (10, (256 : Int32).toNatClampNeg)) fun h_88 =>
    gz_ck (gz_sh h_88 a0 9 29) <|
    gz_lt (uR h_88 a0 28 (some h_86.1.length)) fun h_90 =>
    fX9_init_190 l0 s0 mc ms gz_fu a0 (1 : Int32) h_90
set_option maxRecDepth 100000 in
set_option maxHeartbeats 4000000 in
theorem sX9_init_0 {G : gz_G} {d l0 s0 mc ms : Nat} {Q : Unit → gz_H → Prop} (a0 : Nat) (h : gz_H) (hf : gz_g (fX9_init_0 l0 s0 mc ms a0 h) Q) : gz_Ok G mX9_init (d + 1, l0, s0, mc, ms) 0 [.ref a0, .retAddr 0] [] h (gz_qu Q) := by
  unfold fX9_init_0 at hf
  refine gz_aload_n (pc := 0) dX9_init_0 rfl rfl ?_
  refine gz_obj (pc := 1) dX9_init_1 kob_RX9_1 (by show 1 ≤ d + 1; omega) (Nat.le_of_ble_eq_true rfl) ?_
  refine gz_aload_n (pc := 4) dX9_init_4 rfl rfl ?_
  refine gz_sipush (v := (9024 : Int32)) (pc := 5) dX9_init_5 rfl ?_
  refine gz_gk hf (fun c_1 hf => ?_)
  refine gz_newi (pc := 8) dX9_init_8 kw_int (gz_dcs c_1).1 (gz_dcs c_1).2.1 (gz_dcs c_1).2.2.1 (gz_dcs c_1).2.2.2 ?_
  refine gz_nmH (fun h_2 eh_2 => ?_)
  have hf := gz_gl eh_2 hf
  refine gz_gk hf (fun c_3 hf => ?_)
  refine gz_putR (pc := 10) dX9_init_10 fw_X9_init_7 rfl (gz_shs c_3) ?_
  refine gz_nmH (fun h_4 eh_4 => ?_)
  have hf := gz_gl eh_4 hf
  refine gz_aload_n (pc := 13) dX9_init_13 rfl rfl ?_
  refine gz_bipush (v := (8 : Int32)) (pc := 14) dX9_init_14 rfl ?_
  refine gz_gk hf (fun c_5 hf => ?_)
  refine gz_newi (pc := 16) dX9_init_16 kw_int (gz_dcs c_5).1 (gz_dcs c_5).2.1 (gz_dcs c_5).2.2.1 (gz_dcs c_5).2.2.2 ?_
  refine gz_nmH (fun h_6 eh_6 => ?_)
  have hf := gz_gl eh_6 hf
  refine gz_gk hf (fun c_7 hf => ?_)
  refine gz_putR (pc := 18) dX9_init_18 fw_X9_init_13 rfl (gz_shs c_7) ?_
  refine gz_nmH (fun h_8 eh_8 => ?_)
  have hf := gz_gl eh_8 hf
  refine gz_aload_n (pc := 21) dX9_init_21 rfl rfl ?_
  refine gz_bipush (v := (6 : Int32)) (pc := 22) dX9_init_22 rfl ?_
  refine gz_gk hf (fun c_9 hf => ?_)
  refine gz_newi (pc := 24) dX9_init_24 kw_int (gz_dcs c_9).1 (gz_dcs c_9).2.1 (gz_dcs c_9).2.2.1 (gz_dcs c_9).2.2.2 ?_
  refine gz_nmH (fun h_10 eh_10 => ?_)
  have hf := gz_gl eh_10 hf
  refine gz_gk hf (fun c_11 hf => ?_)
  refine gz_putR (pc := 26) dX9_init_26 fw_X9_init_16 rfl (gz_shs c_11) ?_
  refine gz_nmH (fun h_12 eh_12 => ?_)
  have hf := gz_gl eh_12 hf
  refine gz_aload_n (pc := 29) dX9_init_29 rfl rfl ?_
  refine gz_bipush (v := (6 : Int32)) (pc := 30) dX9_init_30 rfl ?_
  refine gz_gk hf (fun c_13 hf => ?_)
  refine gz_newi (pc := 32) dX9_init_32 kw_int (gz_dcs c_13).1 (gz_dcs c_13).2.1 (gz_dcs c_13).2.2.1 (gz_dcs c_13).2.2.2 ?_
  refine gz_nmH (fun h_14 eh_14 => ?_)
  have hf := gz_gl eh_14 hf
  refine gz_gk hf (fun c_15 hf => ?_)
  refine gz_putR (pc := 34) dX9_init_34 fw_X9_init_19 rfl (gz_shs c_15) ?_
  refine gz_nmH (fun h_16 eh_16 => ?_)
  have hf := gz_gl eh_16 hf
  refine gz_aload_n (pc := 37) dX9_init_37 rfl rfl ?_
  refine gz_bipush (v := (6 : Int32)) (pc := 38) dX9_init_38 rfl ?_
  refine gz_gk hf (fun c_17 hf => ?_)
  refine gz_newi (pc := 40) dX9_init_40 kw_int (gz_dcs c_17).1 (gz_dcs c_17).2.1 (gz_dcs c_17).2.2.1 (gz_dcs c_17).2.2.2 ?_
  refine gz_nmH (fun h_18 eh_18 => ?_)
  have hf := gz_gl eh_18 hf
  refine gz_gk hf (fun c_19 hf => ?_)
  refine gz_putR (pc := 42) dX9_init_42 fw_X9_init_22 rfl (gz_shs c_19) ?_
  refine gz_nmH (fun h_20 eh_20 => ?_)
  have hf := gz_gl eh_20 hf
  refine gz_aload_n (pc := 45) dX9_init_45 rfl rfl ?_
  refine gz_bipush (v := (6 : Int32)) (pc := 46) dX9_init_46 rfl ?_
  refine gz_gk hf (fun c_21 hf => ?_)
  refine gz_newi (pc := 48) dX9_init_48 kw_int (gz_dcs c_21).1 (gz_dcs c_21).2.1 (gz_dcs c_21).2.2.1 (gz_dcs c_21).2.2.2 ?_
  refine gz_nmH (fun h_22 eh_22 => ?_)
  have hf := gz_gl eh_22 hf
  refine gz_dup (pc := 50) dX9_init_50 rfl ?_
  refine gz_iconst (v := (0 : Int32)) (pc := 51) dX9_init_51 rfl ?_
  refine gz_iconst (v := (-1 : Int32)) (pc := 52) dX9_init_52 rfl ?_
  refine gz_gk hf (fun c_23 hf => ?_)
  refine gz_iast (pc := 53) dX9_init_53 c_23 ?_
  refine gz_nmH (fun h_24 eh_24 => ?_)
  have hf := gz_gl eh_24 hf
  refine gz_dup (pc := 54) dX9_init_54 rfl ?_
  refine gz_iconst (v := (1 : Int32)) (pc := 55) dX9_init_55 rfl ?_
  refine gz_iconst (v := (-1 : Int32)) (pc := 56) dX9_init_56 rfl ?_
  refine gz_gk hf (fun c_25 hf => ?_)
  refine gz_iast (pc := 57) dX9_init_57 c_25 ?_
  refine gz_nmH (fun h_26 eh_26 => ?_)
  have hf := gz_gl eh_26 hf
  refine gz_dup (pc := 58) dX9_init_58 rfl ?_
  refine gz_iconst (v := (2 : Int32)) (pc := 59) dX9_init_59 rfl ?_
  refine gz_iconst (v := (-1 : Int32)) (pc := 60) dX9_init_60 rfl ?_
  refine gz_gk hf (fun c_27 hf => ?_)
  refine gz_iast (pc := 61) dX9_init_61 c_27 ?_
  refine gz_nmH (fun h_28 eh_28 => ?_)
  have hf := gz_gl eh_28 hf
  refine gz_dup (pc := 62) dX9_init_62 rfl ?_
  refine gz_iconst (v := (3 : Int32)) (pc := 63) dX9_init_63 rfl ?_
  refine gz_iconst (v := (-1 : Int32)) (pc := 64) dX9_init_64 rfl ?_
  refine gz_gk hf (fun c_29 hf => ?_)
  refine gz_iast (pc := 65) dX9_init_65 c_29 ?_
  refine gz_nmH (fun h_30 eh_30 => ?_)
  have hf := gz_gl eh_30 hf
  refine gz_dup (pc := 66) dX9_init_66 rfl ?_
  refine gz_iconst (v := (4 : Int32)) (pc := 67) dX9_init_67 rfl ?_
  refine gz_iconst (v := (-1 : Int32)) (pc := 68) dX9_init_68 rfl ?_
  refine gz_gk hf (fun c_31 hf => ?_)
  refine gz_iast (pc := 69) dX9_init_69 c_31 ?_
  refine gz_nmH (fun h_32 eh_32 => ?_)
  have hf := gz_gl eh_32 hf
  refine gz_dup (pc := 70) dX9_init_70 rfl ?_
  refine gz_iconst (v := (5 : Int32)) (pc := 71) dX9_init_71 rfl ?_
  refine gz_iconst (v := (-1 : Int32)) (pc := 72) dX9_init_72 rfl ?_
  refine gz_gk hf (fun c_33 hf => ?_)
  refine gz_iast (pc := 73) dX9_init_73 c_33 ?_
  refine gz_nmH (fun h_34 eh_34 => ?_)
  have hf := gz_gl eh_34 hf
  refine gz_gk hf (fun c_35 hf => ?_)
  refine gz_putR (pc := 74) dX9_init_74 fw_X9_init_25 rfl (gz_shs c_35) ?_
  refine gz_nmH (fun h_36 eh_36 => ?_)
  have hf := gz_gl eh_36 hf
  refine gz_aload_n (pc := 77) dX9_init_77 rfl rfl ?_
  refine gz_sipush (v := (240 : Int32)) (pc := 78) dX9_init_78 rfl ?_
  refine gz_gk hf (fun c_37 hf => ?_)
  refine gz_newi (pc := 81) dX9_init_81 kw_int (gz_dcs c_37).1 (gz_dcs c_37).2.1 (gz_dcs c_37).2.2.1 (gz_dcs c_37).2.2.2 ?_
  refine gz_nmH (fun h_38 eh_38 => ?_)
  have hf := gz_gl eh_38 hf
  refine gz_gk hf (fun c_39 hf => ?_)
  refine gz_putR (pc := 83) dX9_init_83 fw_X9_init_28 rfl (gz_shs c_39) ?_
  refine gz_nmH (fun h_40 eh_40 => ?_)
  have hf := gz_gl eh_40 hf
  refine gz_aload_n (pc := 86) dX9_init_86 rfl rfl ?_
  refine gz_iconst (v := (4 : Int32)) (pc := 87) dX9_init_87 rfl ?_
  refine gz_gk hf (fun c_41 hf => ?_)
  refine gz_newi (pc := 88) dX9_init_88 kw_int (gz_dcs c_41).1 (gz_dcs c_41).2.1 (gz_dcs c_41).2.2.1 (gz_dcs c_41).2.2.2 ?_
  refine gz_nmH (fun h_42 eh_42 => ?_)
  have hf := gz_gl eh_42 hf
  refine gz_dup (pc := 90) dX9_init_90 rfl ?_
  refine gz_iconst (v := (0 : Int32)) (pc := 91) dX9_init_91 rfl ?_
  refine gz_iconst (v := (-1 : Int32)) (pc := 92) dX9_init_92 rfl ?_
  refine gz_gk hf (fun c_43 hf => ?_)
  refine gz_iast (pc := 93) dX9_init_93 c_43 ?_
  refine gz_nmH (fun h_44 eh_44 => ?_)
  have hf := gz_gl eh_44 hf
  refine gz_dup (pc := 94) dX9_init_94 rfl ?_
  refine gz_iconst (v := (1 : Int32)) (pc := 95) dX9_init_95 rfl ?_
  refine gz_iconst (v := (-1 : Int32)) (pc := 96) dX9_init_96 rfl ?_
  refine gz_gk hf (fun c_45 hf => ?_)
  refine gz_iast (pc := 97) dX9_init_97 c_45 ?_
  refine gz_nmH (fun h_46 eh_46 => ?_)
  have hf := gz_gl eh_46 hf
  refine gz_dup (pc := 98) dX9_init_98 rfl ?_
  refine gz_iconst (v := (2 : Int32)) (pc := 99) dX9_init_99 rfl ?_
  refine gz_iconst (v := (-1 : Int32)) (pc := 100) dX9_init_100 rfl ?_
  refine gz_gk hf (fun c_47 hf => ?_)
  refine gz_iast (pc := 101) dX9_init_101 c_47 ?_
  refine gz_nmH (fun h_48 eh_48 => ?_)
  have hf := gz_gl eh_48 hf
  refine gz_dup (pc := 102) dX9_init_102 rfl ?_
  refine gz_iconst (v := (3 : Int32)) (pc := 103) dX9_init_103 rfl ?_
  refine gz_iconst (v := (-1 : Int32)) (pc := 104) dX9_init_104 rfl ?_
  refine gz_gk hf (fun c_49 hf => ?_)
  refine gz_iast (pc := 105) dX9_init_105 c_49 ?_
  refine gz_nmH (fun h_50 eh_50 => ?_)
  have hf := gz_gl eh_50 hf
  refine gz_gk hf (fun c_51 hf => ?_)
  refine gz_putR (pc := 106) dX9_init_106 fw_X9_init_31 rfl (gz_shs c_51) ?_
  refine gz_nmH (fun h_52 eh_52 => ?_)
  have hf := gz_gl eh_52 hf
  refine gz_aload_n (pc := 109) dX9_init_109 rfl rfl ?_
  refine gz_sipush (v := (320 : Int32)) (pc := 110) dX9_init_110 rfl ?_
  refine gz_gk hf (fun c_53 hf => ?_)
  refine gz_newi (pc := 113) dX9_init_113 kw_int (gz_dcs c_53).1 (gz_dcs c_53).2.1 (gz_dcs c_53).2.2.1 (gz_dcs c_53).2.2.2 ?_
  refine gz_nmH (fun h_54 eh_54 => ?_)
  have hf := gz_gl eh_54 hf
  refine gz_gk hf (fun c_55 hf => ?_)
  refine gz_putR (pc := 115) dX9_init_115 fw_X9_init_34 rfl (gz_shs c_55) ?_
  refine gz_nmH (fun h_56 eh_56 => ?_)
  have hf := gz_gl eh_56 hf
  refine gz_aload_n (pc := 118) dX9_init_118 rfl rfl ?_
  refine gz_lconst (v := (1 : Int64)) (pc := 119) dX9_init_119 rfl ?_
  refine gz_gk hf (fun c_57 hf => ?_)
  refine gz_putL (pc := 120) dX9_init_120 fw_X9_init_37 rfl (gz_shs c_57) ?_
  refine gz_nmH (fun h_58 eh_58 => ?_)
  have hf := gz_gl eh_58 hf
  refine gz_aload_n (pc := 123) dX9_init_123 rfl rfl ?_
  refine gz_bipush (v := (6 : Int32)) (pc := 124) dX9_init_124 rfl ?_
  refine gz_gk hf (fun c_59 hf => ?_)
  refine gz_newi (pc := 126) dX9_init_126 kw_int (gz_dcs c_59).1 (gz_dcs c_59).2.1 (gz_dcs c_59).2.2.1 (gz_dcs c_59).2.2.2 ?_
  refine gz_nmH (fun h_60 eh_60 => ?_)
  have hf := gz_gl eh_60 hf
  refine gz_gk hf (fun c_61 hf => ?_)
  refine gz_putR (pc := 128) dX9_init_128 fw_X9_init_41 rfl (gz_shs c_61) ?_
  refine gz_nmH (fun h_62 eh_62 => ?_)
  have hf := gz_gl eh_62 hf
  refine gz_aload_n (pc := 131) dX9_init_131 rfl rfl ?_
  refine gz_bipush (v := (8 : Int32)) (pc := 132) dX9_init_132 rfl ?_
  refine gz_gk hf (fun c_63 hf => ?_)
  refine gz_newi (pc := 134) dX9_init_134 kw_int (gz_dcs c_63).1 (gz_dcs c_63).2.1 (gz_dcs c_63).2.2.1 (gz_dcs c_63).2.2.2 ?_
  refine gz_nmH (fun h_64 eh_64 => ?_)
  have hf := gz_gl eh_64 hf
  refine gz_gk hf (fun c_65 hf => ?_)
  refine gz_putR (pc := 136) dX9_init_136 fw_X9_init_44 rfl (gz_shs c_65) ?_
  refine gz_nmH (fun h_66 eh_66 => ?_)
  have hf := gz_gl eh_66 hf
  refine gz_aload_n (pc := 139) dX9_init_139 rfl rfl ?_
  refine gz_bipush (v := (18 : Int32)) (pc := 140) dX9_init_140 rfl ?_
  refine gz_gk hf (fun c_67 hf => ?_)
  refine gz_newi (pc := 142) dX9_init_142 kw_int (gz_dcs c_67).1 (gz_dcs c_67).2.1 (gz_dcs c_67).2.2.1 (gz_dcs c_67).2.2.2 ?_
  refine gz_nmH (fun h_68 eh_68 => ?_)
  have hf := gz_gl eh_68 hf
  refine gz_gk hf (fun c_69 hf => ?_)
  refine gz_putR (pc := 144) dX9_init_144 fw_X9_init_47 rfl (gz_shs c_69) ?_
  refine gz_nmH (fun h_70 eh_70 => ?_)
  have hf := gz_gl eh_70 hf
  refine gz_aload_n (pc := 147) dX9_init_147 rfl rfl ?_
  refine gz_bipush (v := (6 : Int32)) (pc := 148) dX9_init_148 rfl ?_
  refine gz_gk hf (fun c_71 hf => ?_)
  refine gz_newi (pc := 150) dX9_init_150 kw_int (gz_dcs c_71).1 (gz_dcs c_71).2.1 (gz_dcs c_71).2.2.1 (gz_dcs c_71).2.2.2 ?_
  refine gz_nmH (fun h_72 eh_72 => ?_)
  have hf := gz_gl eh_72 hf
  refine gz_gk hf (fun c_73 hf => ?_)
  refine gz_putR (pc := 152) dX9_init_152 fw_X9_init_50 rfl (gz_shs c_73) ?_
  refine gz_nmH (fun h_74 eh_74 => ?_)
  have hf := gz_gl eh_74 hf
  refine gz_aload_n (pc := 155) dX9_init_155 rfl rfl ?_
  refine gz_bipush (v := (48 : Int32)) (pc := 156) dX9_init_156 rfl ?_
  refine gz_gk hf (fun c_75 hf => ?_)
  refine gz_newi (pc := 158) dX9_init_158 kw_int (gz_dcs c_75).1 (gz_dcs c_75).2.1 (gz_dcs c_75).2.2.1 (gz_dcs c_75).2.2.2 ?_
  refine gz_nmH (fun h_76 eh_76 => ?_)
  have hf := gz_gl eh_76 hf
  refine gz_gk hf (fun c_77 hf => ?_)
  refine gz_putR (pc := 160) dX9_init_160 fw_X9_init_53 rfl (gz_shs c_77) ?_
  refine gz_nmH (fun h_78 eh_78 => ?_)
  have hf := gz_gl eh_78 hf
  refine gz_aload_n (pc := 163) dX9_init_163 rfl rfl ?_
  refine gz_bipush (v := (8 : Int32)) (pc := 164) dX9_init_164 rfl ?_
  refine gz_gk hf (fun c_79 hf => ?_)
  refine gz_newi (pc := 166) dX9_init_166 kw_int (gz_dcs c_79).1 (gz_dcs c_79).2.1 (gz_dcs c_79).2.2.1 (gz_dcs c_79).2.2.2 ?_
  refine gz_nmH (fun h_80 eh_80 => ?_)
  have hf := gz_gl eh_80 hf
  refine gz_gk hf (fun c_81 hf => ?_)
  refine gz_putR (pc := 168) dX9_init_168 fw_X9_init_56 rfl (gz_shs c_81) ?_
  refine gz_nmH (fun h_82 eh_82 => ?_)
  have hf := gz_gl eh_82 hf
  refine gz_aload_n (pc := 171) dX9_init_171 rfl rfl ?_
  refine gz_bipush (v := (36 : Int32)) (pc := 172) dX9_init_172 rfl ?_
  refine gz_gk hf (fun c_83 hf => ?_)
  refine gz_newi (pc := 174) dX9_init_174 kw_int (gz_dcs c_83).1 (gz_dcs c_83).2.1 (gz_dcs c_83).2.2.1 (gz_dcs c_83).2.2.2 ?_
  refine gz_nmH (fun h_84 eh_84 => ?_)
  have hf := gz_gl eh_84 hf
  refine gz_gk hf (fun c_85 hf => ?_)
  refine gz_putR (pc := 176) dX9_init_176 fw_X9_init_59 rfl (gz_shs c_85) ?_
  refine gz_nmH (fun h_86 eh_86 => ?_)
  have hf := gz_gl eh_86 hf
  refine gz_aload_n (pc := 179) dX9_init_179 rfl rfl ?_
  refine gz_sipush (v := (256 : Int32)) (pc := 180) dX9_init_180 rfl ?_
  refine gz_gk hf (fun c_87 hf => ?_)
  refine gz_newi (pc := 183) dX9_init_183 kw_int (gz_dcs c_87).1 (gz_dcs c_87).2.1 (gz_dcs c_87).2.2.1 (gz_dcs c_87).2.2.2 ?_
  refine gz_nmH (fun h_88 eh_88 => ?_)
  have hf := gz_gl eh_88 hf
  refine gz_gk hf (fun c_89 hf => ?_)
  refine gz_putR (pc := 185) dX9_init_185 fw_X9_init_62 rfl (gz_shs c_89) ?_
  refine gz_nmH (fun h_90 eh_90 => ?_)
  have hf := gz_gl eh_90 hf
  refine gz_iconst (v := (1 : Int32)) (pc := 188) dX9_init_188 rfl ?_
  refine gz_istore_n (lv := [.ref a0, .int (1 : Int32)]) (pc := 189) dX9_init_189 rfl (by decide) rfl ?_
  exact sX9_init_190 gz_fu a0 (1 : Int32) h_90 hf
def fX9_init (mc ms : Nat) (a0 : Nat) (h : gz_H) : Option (Unit × gz_H) := fX9_init_0 h.1.length (gz_ss h.1) mc ms a0 h
theorem sX9_init {G : gz_G} {d mc ms : Nat} {a0 : Nat} {h : gz_H} {Q : Unit → gz_H → Prop} (hf : gz_g (fX9_init mc ms a0 h) Q) : gz_Cl G mX9_init (d + 1) mc ms [.ref a0] h (gz_qu Q) := gz_cl_of (lo := [.ref a0, .retAddr 0]) (by decide) rfl rfl (Nat.le_of_ble_eq_true rfl) (sX9_init_0 a0 h hf)
theorem dX9_bits_0 : decode cX9_bits 0 = .ok (.iconst 0, 1) := by decide +kernel
theorem dX9_bits_1 : decode cX9_bits 1 = .ok (.istore_n 1, 1) := by decide +kernel
theorem dX9_bits_2 : decode cX9_bits 2 = .ok (.iconst 0, 1) := by decide +kernel
theorem dX9_bits_3 : decode cX9_bits 3 = .ok (.istore_n 2, 1) := by decide +kernel
theorem dX9_bits_4 : decode cX9_bits 4 = .ok (.iload_n 2, 1) := by decide +kernel
theorem dX9_bits_5 : decode cX9_bits 5 = .ok (.bipush 8, 2) := by decide +kernel
theorem dX9_bits_7 : decode cX9_bits 7 = .ok (.if_icmp .ge 17, 3) := by decide +kernel
theorem dX9_bits_10 : decode cX9_bits 10 = .ok (.iload_n 1, 1) := by decide +kernel
theorem dX9_bits_11 : decode cX9_bits 11 = .ok (.iload_n 0, 1) := by decide +kernel
theorem dX9_bits_12 : decode cX9_bits 12 = .ok (.iload_n 2, 1) := by decide +kernel
theorem dX9_bits_13 : decode cX9_bits 13 = .ok (.ishr, 1) := by decide +kernel
theorem dX9_bits_14 : decode cX9_bits 14 = .ok (.iconst 1, 1) := by decide +kernel
theorem dX9_bits_15 : decode cX9_bits 15 = .ok (.iand, 1) := by decide +kernel
theorem dX9_bits_16 : decode cX9_bits 16 = .ok (.iadd, 1) := by decide +kernel
theorem dX9_bits_17 : decode cX9_bits 17 = .ok (.istore_n 1, 1) := by decide +kernel
theorem dX9_bits_18 : decode cX9_bits 18 = .ok (.iinc 2 1, 3) := by decide +kernel
theorem dX9_bits_21 : decode cX9_bits 21 = .ok (.goto (-17), 3) := by decide +kernel
theorem dX9_bits_24 : decode cX9_bits 24 = .ok (.iload_n 1, 1) := by decide +kernel
theorem dX9_bits_25 : decode cX9_bits 25 = .ok (.ireturn, 1) := by decide +kernel
def fX9_bits_4  : Nat → Int32 → Int32 → Int32 → gz_H → Option (Int32 × gz_H)
  | 0, _, _, _, _ => none
  | n + 1, x0, x1, x2, h =>
    if (8 : Int32) ≤ x2 then (
     some (x1, h)
    ) else (
     fX9_bits_4 n x0 (x1 + ((x0 >>> (x2 &&& 31)) &&& (1 : Int32))) (x2 + 1) h
    )
set_option maxRecDepth 100000 in
set_option maxHeartbeats 1000000 in
theorem sX9_bits_4 {G : gz_G} {d l0 s0 : Nat} {Q : Int32 → gz_H → Prop} : ∀ (n : Nat) (x0 : Int32) (x1 : Int32) (x2 : Int32) (h : gz_H), gz_g (fX9_bits_4  n x0 x1 x2 h) Q → gz_Ok G mX9_bits (d + 0, l0, s0, 0, 0) 4 [.int x0, .int x1, .int x2] [] h (gz_qi Q) := by
  intro n
  induction n with
  | zero => intro x0 x1 x2 h hf; exact False.elim hf
  | succ n ih =>
    intro x0 x1 x2 h hf
    rw [fX9_bits_4] at hf
    refine gz_iload_n (pc := 4) dX9_bits_4 rfl rfl ?_
    refine gz_bipush (v := (8 : Int32)) (pc := 5) dX9_bits_5 rfl ?_
    refine gz_icmp_ge (tgt := 24) (pc := 7) dX9_bits_7 rfl (fun c_1 => ?_) (fun c_1 => ?_)
    · have hf := gz_gT hf c_1
      refine gz_iload_n (pc := 24) dX9_bits_24 rfl rfl ?_
      exact gz_irt (pc := 25) dX9_bits_25 rfl rfl hf
    · have hf := gz_gF hf c_1
      refine gz_iload_n (pc := 10) dX9_bits_10 rfl rfl ?_
      refine gz_iload_n (pc := 11) dX9_bits_11 rfl rfl ?_
      refine gz_iload_n (pc := 12) dX9_bits_12 rfl rfl ?_
      refine gz_ishr (pc := 13) dX9_bits_13 ?_
      refine gz_iconst (v := (1 : Int32)) (pc := 14) dX9_bits_14 rfl ?_
      refine gz_iand (pc := 15) dX9_bits_15 ?_
      refine gz_iadd (pc := 16) dX9_bits_16 ?_
      refine gz_istore_n (lv := [.int x0, .int (x1 + ((x0 >>> (x2 &&& 31)) &&& (1 : Int32))), .int x2]) (pc := 17) dX9_bits_17 rfl (by decide) rfl ?_
      refine gz_iinc (v := x2 + 1) (lv := [.int x0, .int (x1 + ((x0 >>> (x2 &&& 31)) &&& (1 : Int32))), .int (x2 + 1)]) (pc := 18) dX9_bits_18 rfl rfl (by decide) rfl ?_
      refine gz_goto (tgt := 4) (pc := 21) dX9_bits_21 rfl ?_
      exact ih x0 (x1 + ((x0 >>> (x2 &&& 31)) &&& (1 : Int32))) (x2 + 1) h hf
def fX9_bits_0  (x0 : Int32) (h : gz_H) : Option (Int32 × gz_H) :=
    fX9_bits_4 gz_fu x0 (0 : Int32) (0 : Int32) h
set_option maxRecDepth 100000 in
set_option maxHeartbeats 1000000 in
theorem sX9_bits_0 {G : gz_G} {d l0 s0 : Nat} {Q : Int32 → gz_H → Prop} (x0 : Int32) (h : gz_H) (hf : gz_g (fX9_bits_0  x0 h) Q) : gz_Ok G mX9_bits (d + 0, l0, s0, 0, 0) 0 [.int x0, .retAddr 0, .retAddr 0] [] h (gz_qi Q) := by
  unfold fX9_bits_0 at hf
  refine gz_iconst (v := (0 : Int32)) (pc := 0) dX9_bits_0 rfl ?_
  refine gz_istore_n (lv := [.int x0, .int (0 : Int32), .retAddr 0]) (pc := 1) dX9_bits_1 rfl (by decide) rfl ?_
  refine gz_iconst (v := (0 : Int32)) (pc := 2) dX9_bits_2 rfl ?_
  refine gz_istore_n (lv := [.int x0, .int (0 : Int32), .int (0 : Int32)]) (pc := 3) dX9_bits_3 rfl (by decide) rfl ?_
  exact sX9_bits_4 gz_fu x0 (0 : Int32) (0 : Int32) h hf
def fX9_bits (x0 : Int32) (h : gz_H) : Option (Int32 × gz_H) := fX9_bits_0 x0 h
theorem sX9_bits {G : gz_G} {d : Nat} {x0 : Int32} {h : gz_H} {Q : Int32 → gz_H → Prop} (hf : gz_g (fX9_bits x0 h) Q) : gz_Cl G mX9_bits (d + 0) 0 0 [.int x0] h (gz_qi Q) := gz_cl_of (lo := [.int x0, .retAddr 0, .retAddr 0]) (by decide) rfl rfl (Nat.le_of_ble_eq_true rfl) (sX9_bits_0 x0 h hf)
theorem dX9_in_0 : decode cX9_in 0 = .ok (.lload_n 0, 1) := by decide +kernel
theorem dX9_in_1 : decode cX9_in 1 = .ok (.lload_n 2, 1) := by decide +kernel
theorem dX9_in_2 : decode cX9_in 2 = .ok (.lcmp, 1) := by decide +kernel
theorem dX9_in_3 : decode cX9_in 3 = .ok (.ifCond .lt 14, 3) := by decide +kernel
theorem dX9_in_6 : decode cX9_in 6 = .ok (.lload_n 0, 1) := by decide +kernel
theorem dX9_in_7 : decode cX9_in 7 = .ok (.lload 4, 2) := by decide +kernel
theorem dX9_in_9 : decode cX9_in 9 = .ok (.lcmp, 1) := by decide +kernel
theorem dX9_in_10 : decode cX9_in 10 = .ok (.ifCond .gt 7, 3) := by decide +kernel
theorem dX9_in_13 : decode cX9_in 13 = .ok (.iconst 1, 1) := by decide +kernel
theorem dX9_in_14 : decode cX9_in 14 = .ok (.goto 4, 3) := by decide +kernel
theorem dX9_in_17 : decode cX9_in 17 = .ok (.iconst 0, 1) := by decide +kernel
theorem dX9_in_18 : decode cX9_in 18 = .ok (.ireturn, 1) := by decide +kernel
def fX9_in_0  (x0 : Int64) (x2 : Int64) (x4 : Int64) (h : gz_H) : Option (Int32 × gz_H) :=
    if (lg_cmp x0 x2) < 0 then (
     some ((0 : Int32), h)
    ) else (
     if 0 < (lg_cmp x0 x4) then (
      some ((0 : Int32), h)
     ) else (
      some ((1 : Int32), h)
     )
    )
set_option maxRecDepth 100000 in
set_option maxHeartbeats 1000000 in
theorem sX9_in_0 {G : gz_G} {d l0 s0 : Nat} {Q : Int32 → gz_H → Prop} (x0 : Int64) (x2 : Int64) (x4 : Int64) (h : gz_H) (hf : gz_g (fX9_in_0  x0 x2 x4 h) Q) : gz_Ok G mX9_in (d + 0, l0, s0, 0, 0) 0 [.long x0, .retAddr 0, .long x2, .retAddr 0, .long x4, .retAddr 0] [] h (gz_qi Q) := by
  unfold fX9_in_0 at hf
  refine gz_lload_n (pc := 0) dX9_in_0 rfl rfl ?_
  refine gz_lload_n (pc := 1) dX9_in_1 rfl rfl ?_
  refine gz_lcmp (pc := 2) dX9_in_2 ?_
  refine gz_if_lt (tgt := 17) (pc := 3) dX9_in_3 rfl (fun c_1 => ?_) (fun c_1 => ?_)
  · have hf := gz_gT hf c_1
    refine gz_iconst (v := (0 : Int32)) (pc := 17) dX9_in_17 rfl ?_
    exact gz_irt (pc := 18) dX9_in_18 rfl rfl hf
  · have hf := gz_gF hf c_1
    refine gz_lload_n (pc := 6) dX9_in_6 rfl rfl ?_
    refine gz_lload (pc := 7) dX9_in_7 rfl ?_
    refine gz_lcmp (pc := 9) dX9_in_9 ?_
    refine gz_if_gt (tgt := 17) (pc := 10) dX9_in_10 rfl (fun c_2 => ?_) (fun c_2 => ?_)
    · have hf := gz_gT hf c_2
      refine gz_iconst (v := (0 : Int32)) (pc := 17) dX9_in_17 rfl ?_
      exact gz_irt (pc := 18) dX9_in_18 rfl rfl hf
    · have hf := gz_gF hf c_2
      refine gz_iconst (v := (1 : Int32)) (pc := 13) dX9_in_13 rfl ?_
      refine gz_goto (tgt := 18) (pc := 14) dX9_in_14 rfl ?_
      exact gz_irt (pc := 18) dX9_in_18 rfl rfl hf
def fX9_in (x0 : Int64) (x2 : Int64) (x4 : Int64) (h : gz_H) : Option (Int32 × gz_H) := fX9_in_0 x0 x2 x4 h
theorem sX9_in {G : gz_G} {d : Nat} {x0 : Int64} {x2 : Int64} {x4 : Int64} {h : gz_H} {Q : Int32 → gz_H → Prop} (hf : gz_g (fX9_in x0 x2 x4 h) Q) : gz_Cl G mX9_in (d + 0) 0 0 [.long x0, .long x2, .long x4] h (gz_qi Q) := gz_cl_of (lo := [.long x0, .retAddr 0, .long x2, .retAddr 0, .long x4, .retAddr 0]) (by decide) rfl rfl (Nat.le_of_ble_eq_true rfl) (sX9_in_0 x0 x2 x4 h hf)
theorem dX9_has_0 : decode cX9_has 0 = .ok (.iload_n 0, 1) := by decide +kernel
theorem dX9_has_1 : decode cX9_has 1 = .ok (.iload_n 1, 1) := by decide +kernel
theorem dX9_has_2 : decode cX9_has 2 = .ok (.ishr, 1) := by decide +kernel
theorem dX9_has_3 : decode cX9_has 3 = .ok (.iconst 1, 1) := by decide +kernel
theorem dX9_has_4 : decode cX9_has 4 = .ok (.iand, 1) := by decide +kernel
theorem dX9_has_5 : decode cX9_has 5 = .ok (.iconst 1, 1) := by decide +kernel
theorem dX9_has_6 : decode cX9_has 6 = .ok (.if_icmp .ne 7, 3) := by decide +kernel
theorem dX9_has_9 : decode cX9_has 9 = .ok (.iconst 1, 1) := by decide +kernel
theorem dX9_has_10 : decode cX9_has 10 = .ok (.goto 4, 3) := by decide +kernel
theorem dX9_has_13 : decode cX9_has 13 = .ok (.iconst 0, 1) := by decide +kernel
theorem dX9_has_14 : decode cX9_has 14 = .ok (.ireturn, 1) := by decide +kernel
def fX9_has_0  (x0 : Int32) (x1 : Int32) (h : gz_H) : Option (Int32 × gz_H) :=
    if ((x0 >>> (x1 &&& 31)) &&& (1 : Int32)) = (1 : Int32) then (
     some ((1 : Int32), h)
    ) else (
     some ((0 : Int32), h)
    )
set_option maxRecDepth 100000 in
set_option maxHeartbeats 1000000 in
theorem sX9_has_0 {G : gz_G} {d l0 s0 : Nat} {Q : Int32 → gz_H → Prop} (x0 : Int32) (x1 : Int32) (h : gz_H) (hf : gz_g (fX9_has_0  x0 x1 h) Q) : gz_Ok G mX9_has (d + 0, l0, s0, 0, 0) 0 [.int x0, .int x1] [] h (gz_qi Q) := by
  unfold fX9_has_0 at hf
  refine gz_iload_n (pc := 0) dX9_has_0 rfl rfl ?_
  refine gz_iload_n (pc := 1) dX9_has_1 rfl rfl ?_
  refine gz_ishr (pc := 2) dX9_has_2 ?_
  refine gz_iconst (v := (1 : Int32)) (pc := 3) dX9_has_3 rfl ?_
  refine gz_iand (pc := 4) dX9_has_4 ?_
  refine gz_iconst (v := (1 : Int32)) (pc := 5) dX9_has_5 rfl ?_
  refine gz_icmp_ne (tgt := 13) (pc := 6) dX9_has_6 rfl (fun c_1 => ?_) (fun c_1 => ?_)
  · have hf := gz_gF hf c_1
    refine gz_iconst (v := (0 : Int32)) (pc := 13) dX9_has_13 rfl ?_
    exact gz_irt (pc := 14) dX9_has_14 rfl rfl hf
  · have hf := gz_gT hf c_1
    refine gz_iconst (v := (1 : Int32)) (pc := 9) dX9_has_9 rfl ?_
    refine gz_goto (tgt := 14) (pc := 10) dX9_has_10 rfl ?_
    exact gz_irt (pc := 14) dX9_has_14 rfl rfl hf
def fX9_has (x0 : Int32) (x1 : Int32) (h : gz_H) : Option (Int32 × gz_H) := fX9_has_0 x0 x1 h
theorem sX9_has {G : gz_G} {d : Nat} {x0 : Int32} {x1 : Int32} {h : gz_H} {Q : Int32 → gz_H → Prop} (hf : gz_g (fX9_has x0 x1 h) Q) : gz_Cl G mX9_has (d + 0) 0 0 [.int x0, .int x1] h (gz_qi Q) := gz_cl_of (lo := [.int x0, .int x1]) (by decide) rfl rfl (Nat.le_of_ble_eq_true rfl) (sX9_has_0 x0 x1 h hf)
theorem dX9_find_0 : decode cX9_find 0 = .ok (.aload_n 0, 1) := by decide +kernel
theorem dX9_find_1 : decode cX9_find 1 = .ok (.iload_n 1, 1) := by decide +kernel
theorem dX9_find_2 : decode cX9_find 2 = .ok (.putfield 65, 3) := by decide +kernel
theorem dX9_find_5 : decode cX9_find 5 = .ok (.aload_n 0, 1) := by decide +kernel
theorem dX9_find_6 : decode cX9_find 6 = .ok (.getfield 41, 3) := by decide +kernel
theorem dX9_find_9 : decode cX9_find 9 = .ok (.iload_n 1, 1) := by decide +kernel
theorem dX9_find_10 : decode cX9_find 10 = .ok (.dup2, 1) := by decide +kernel
theorem dX9_find_11 : decode cX9_find 11 = .ok (.iaload, 1) := by decide +kernel
theorem dX9_find_12 : decode cX9_find 12 = .ok (.iconst 1, 1) := by decide +kernel
theorem dX9_find_13 : decode cX9_find 13 = .ok (.iadd, 1) := by decide +kernel
theorem dX9_find_14 : decode cX9_find 14 = .ok (.iastore, 1) := by decide +kernel
theorem dX9_find_15 : decode cX9_find 15 = .ok (.bipush (-3), 2) := by decide +kernel
theorem dX9_find_17 : decode cX9_find 17 = .ok (.ireturn, 1) := by decide +kernel
def fX9_find_0  (a0 : Nat) (x1 : Int32) (h : gz_H) : Option (Int32 × gz_H) :=
    gz_ck (gz_sh h a0 9 29) <|
    gz_lt (uI h a0 14 x1) fun h_2 =>
    gz_ck (gz_sh h_2 a0 9 29) <|
    gz_br (h_2.2.2.2 a0 15) fun r_4 =>
    gz_ck (gz_inb h_2 r_4 10 x1) <|
    gz_lt (uI h_2 r_4 x1.toNatClampNeg ((h_2.2.1 r_4 x1.toNatClampNeg) + (1 : Int32))) fun h_6 =>
    some ((-3 : Int32), h_6)
set_option maxRecDepth 100000 in
set_option maxHeartbeats 1000000 in
theorem sX9_find_0 {G : gz_G} {d l0 s0 : Nat} {Q : Int32 → gz_H → Prop} (a0 : Nat) (x1 : Int32) (h : gz_H) (hf : gz_g (fX9_find_0  a0 x1 h) Q) : gz_Ok G mX9_find (d + 0, l0, s0, 0, 0) 0 [.ref a0, .int x1] [] h (gz_qi Q) := by
  unfold fX9_find_0 at hf
  refine gz_aload_n (pc := 0) dX9_find_0 rfl rfl ?_
  refine gz_iload_n (pc := 1) dX9_find_1 rfl rfl ?_
  refine gz_gk hf (fun c_1 hf => ?_)
  refine gz_putI (pc := 2) dX9_find_2 fw_X9_find_65 rfl rfl rfl (gz_shs c_1) ?_
  refine gz_nmH (fun h_2 eh_2 => ?_)
  have hf := gz_gl eh_2 hf
  refine gz_aload_n (pc := 5) dX9_find_5 rfl rfl ?_
  refine gz_gk hf (fun c_3 hf => ?_)
  refine gz_gb hf (fun r_4 er_4 hf => ?_)
  refine gz_getR (pc := 6) dX9_find_6 fl_RX9_41 rfl (gz_shs c_3) er_4 ?_
  refine gz_iload_n (pc := 9) dX9_find_9 rfl rfl ?_
  refine gz_dup2 (pc := 10) dX9_find_10 rfl rfl ?_
  refine gz_gk hf (fun c_5 hf => ?_)
  refine gz_iald (pc := 11) dX9_find_11 c_5 ?_
  refine gz_iconst (v := (1 : Int32)) (pc := 12) dX9_find_12 rfl ?_
  refine gz_iadd (pc := 13) dX9_find_13 ?_
  refine gz_iast (pc := 14) dX9_find_14 c_5 ?_
  refine gz_nmH (fun h_6 eh_6 => ?_)
  have hf := gz_gl eh_6 hf
  refine gz_bipush (v := (-3 : Int32)) (pc := 15) dX9_find_15 rfl ?_
  exact gz_irt (pc := 17) dX9_find_17 rfl rfl hf
def fX9_find (a0 : Nat) (x1 : Int32) (h : gz_H) : Option (Int32 × gz_H) := fX9_find_0 a0 x1 h
theorem sX9_find {G : gz_G} {d : Nat} {a0 : Nat} {x1 : Int32} {h : gz_H} {Q : Int32 → gz_H → Prop} (hf : gz_g (fX9_find a0 x1 h) Q) : gz_Cl G mX9_find (d + 0) 0 0 [.ref a0, .int x1] h (gz_qi Q) := gz_cl_of (lo := [.ref a0, .int x1]) (by decide) rfl rfl (Nat.le_of_ble_eq_true rfl) (sX9_find_0 a0 x1 h hf)
theorem dX9_tell_0 : decode cX9_tell 0 = .ok (.aload_n 0, 1) := by decide +kernel
theorem dX9_tell_1 : decode cX9_tell 1 = .ok (.iload_n 1, 1) := by decide +kernel
theorem dX9_tell_2 : decode cX9_tell 2 = .ok (.putfield 69, 3) := by decide +kernel
theorem dX9_tell_5 : decode cX9_tell 5 = .ok (.iconst 1, 1) := by decide +kernel
theorem dX9_tell_6 : decode cX9_tell 6 = .ok (.ireturn, 1) := by decide +kernel
def fX9_tell_0  (a0 : Nat) (x1 : Int32) (h : gz_H) : Option (Int32 × gz_H) :=
    gz_ck (gz_sh h a0 9 29) <|
    gz_lt (uI h a0 11 x1) fun h_2 =>
    some ((1 : Int32), h_2)
set_option maxRecDepth 100000 in
set_option maxHeartbeats 1000000 in
theorem sX9_tell_0 {G : gz_G} {d l0 s0 : Nat} {Q : Int32 → gz_H → Prop} (a0 : Nat) (x1 : Int32) (h : gz_H) (hf : gz_g (fX9_tell_0  a0 x1 h) Q) : gz_Ok G mX9_tell (d + 0, l0, s0, 0, 0) 0 [.ref a0, .int x1] [] h (gz_qi Q) := by
  unfold fX9_tell_0 at hf
  refine gz_aload_n (pc := 0) dX9_tell_0 rfl rfl ?_
  refine gz_iload_n (pc := 1) dX9_tell_1 rfl rfl ?_
  refine gz_gk hf (fun c_1 hf => ?_)
  refine gz_putI (pc := 2) dX9_tell_2 fw_X9_tell_69 rfl rfl rfl (gz_shs c_1) ?_
  refine gz_nmH (fun h_2 eh_2 => ?_)
  have hf := gz_gl eh_2 hf
  refine gz_iconst (v := (1 : Int32)) (pc := 5) dX9_tell_5 rfl ?_
  exact gz_irt (pc := 6) dX9_tell_6 rfl rfl hf
def fX9_tell (a0 : Nat) (x1 : Int32) (h : gz_H) : Option (Int32 × gz_H) := fX9_tell_0 a0 x1 h
theorem sX9_tell {G : gz_G} {d : Nat} {a0 : Nat} {x1 : Int32} {h : gz_H} {Q : Int32 → gz_H → Prop} (hf : gz_g (fX9_tell a0 x1 h) Q) : gz_Cl G mX9_tell (d + 0) 0 0 [.ref a0, .int x1] h (gz_qi Q) := gz_cl_of (lo := [.ref a0, .int x1]) (by decide) rfl rfl (Nat.le_of_ble_eq_true rfl) (sX9_tell_0 a0 x1 h hf)
theorem dX9_isRow_0 : decode cX9_isRow 0 = .ok (.iload_n 0, 1) := by decide +kernel
theorem dX9_isRow_1 : decode cX9_isRow 1 = .ok (.i2l, 1) := by decide +kernel
theorem dX9_isRow_2 : decode cX9_isRow 2 = .ok (.lconst 0, 1) := by decide +kernel
theorem dX9_isRow_3 : decode cX9_isRow 3 = .ok (.ldc2_w 72, 3) := by decide +kernel
theorem dX9_isRow_6 : decode cX9_isRow 6 = .ok (.invokestatic 74, 3) := by decide +kernel
theorem dX9_isRow_9 : decode cX9_isRow 9 = .ok (.ireturn, 1) := by decide +kernel
def fX9_isRow_0  (x0 : Int32) (h : gz_H) : Option (Int32 × gz_H) :=
    gz_b2 (fX9_in x0.toInt64 (0 : Int64) (5 : Int64) h) fun y_2 h_1 =>
    gz_ck (gz_bo y_2) <|
    some (y_2, h_1)
set_option maxRecDepth 100000 in
set_option maxHeartbeats 1000000 in
theorem sX9_isRow_0 {G : gz_G} {d l0 s0 : Nat} {Q : Int32 → gz_H → Prop} (x0 : Int32) (h : gz_H) (hf : gz_g (fX9_isRow_0  x0 h) Q) : gz_Ok G mX9_isRow (d + 1, l0, s0, 0, 0) 0 [.int x0] [] h (gz_qi Q) := by
  unfold fX9_isRow_0 at hf
  refine gz_iload_n (pc := 0) dX9_isRow_0 rfl rfl ?_
  refine gz_i2l (pc := 1) dX9_isRow_1 ?_
  refine gz_lconst (v := (0 : Int64)) (pc := 2) dX9_isRow_2 rfl ?_
  refine gz_ldc2 (v := (5 : Int64)) (pc := 3) dX9_isRow_3 kc_RX9_72 ?_
  refine gz_cSI (av := [.long x0.toInt64, .long (0 : Int64), .long (5 : Int64)]) (st := []) (pc := 6) dX9_isRow_6 kl_RX9_74 rfl rfl (Nat.le_of_ble_eq_true rfl) (by show d + 0 + 0 + 1 ≤ d + 1; omega) (sX9_in (d := d + 0) (gz_gc hf)) (fun y_2 h_1 hf => ?_)
  refine gz_gk hf (fun c_3 hf => ?_)
  exact gz_irt (pc := 9) dX9_isRow_9 rfl (by rcases (gz_bos c_3) with h8 | h8 <;> rw [h8] <;> rfl) hf
def fX9_isRow (x0 : Int32) (h : gz_H) : Option (Int32 × gz_H) := fX9_isRow_0 x0 h
theorem sX9_isRow {G : gz_G} {d : Nat} {x0 : Int32} {h : gz_H} {Q : Int32 → gz_H → Prop} (hf : gz_g (fX9_isRow x0 h) Q) : gz_Cl G mX9_isRow (d + 1) 0 0 [.int x0] h (gz_qi Q) := gz_cl_of (lo := [.int x0]) (by decide) rfl rfl (Nat.le_of_ble_eq_true rfl) (sX9_isRow_0 x0 h hf)
theorem dX9_isText_0 : decode cX9_isText 0 = .ok (.iload_n 0, 1) := by decide +kernel
theorem dX9_isText_1 : decode cX9_isText 1 = .ok (.i2l, 1) := by decide +kernel
theorem dX9_isText_2 : decode cX9_isText 2 = .ok (.lconst 0, 1) := by decide +kernel
theorem dX9_isText_3 : decode cX9_isText 3 = .ok (.ldc2_w 78, 3) := by decide +kernel
theorem dX9_isText_6 : decode cX9_isText 6 = .ok (.invokestatic 74, 3) := by decide +kernel
theorem dX9_isText_9 : decode cX9_isText 9 = .ok (.ireturn, 1) := by decide +kernel
def fX9_isText_0  (x0 : Int32) (h : gz_H) : Option (Int32 × gz_H) :=
    gz_b2 (fX9_in x0.toInt64 (0 : Int64) (3 : Int64) h) fun y_2 h_1 =>
    gz_ck (gz_bo y_2) <|
    some (y_2, h_1)
set_option maxRecDepth 100000 in
set_option maxHeartbeats 1000000 in
theorem sX9_isText_0 {G : gz_G} {d l0 s0 : Nat} {Q : Int32 → gz_H → Prop} (x0 : Int32) (h : gz_H) (hf : gz_g (fX9_isText_0  x0 h) Q) : gz_Ok G mX9_isText (d + 1, l0, s0, 0, 0) 0 [.int x0] [] h (gz_qi Q) := by
  unfold fX9_isText_0 at hf
  refine gz_iload_n (pc := 0) dX9_isText_0 rfl rfl ?_
  refine gz_i2l (pc := 1) dX9_isText_1 ?_
  refine gz_lconst (v := (0 : Int64)) (pc := 2) dX9_isText_2 rfl ?_
  refine gz_ldc2 (v := (3 : Int64)) (pc := 3) dX9_isText_3 kc_RX9_78 ?_
  refine gz_cSI (av := [.long x0.toInt64, .long (0 : Int64), .long (3 : Int64)]) (st := []) (pc := 6) dX9_isText_6 kl_RX9_74 rfl rfl (Nat.le_of_ble_eq_true rfl) (by show d + 0 + 0 + 1 ≤ d + 1; omega) (sX9_in (d := d + 0) (gz_gc hf)) (fun y_2 h_1 hf => ?_)
  refine gz_gk hf (fun c_3 hf => ?_)
  exact gz_irt (pc := 9) dX9_isText_9 rfl (by rcases (gz_bos c_3) with h8 | h8 <;> rw [h8] <;> rfl) hf
def fX9_isText (x0 : Int32) (h : gz_H) : Option (Int32 × gz_H) := fX9_isText_0 x0 h
theorem sX9_isText {G : gz_G} {d : Nat} {x0 : Int32} {h : gz_H} {Q : Int32 → gz_H → Prop} (hf : gz_g (fX9_isText x0 h) Q) : gz_Cl G mX9_isText (d + 1) 0 0 [.int x0] h (gz_qi Q) := gz_cl_of (lo := [.int x0]) (by decide) rfl rfl (Nat.le_of_ble_eq_true rfl) (sX9_isText_0 x0 h hf)
theorem dX9_makeRow_0 : decode cX9_makeRow 0 = .ok (.aload_n 0, 1) := by decide +kernel
theorem dX9_makeRow_1 : decode cX9_makeRow 1 = .ok (.getfield 25, 3) := by decide +kernel
theorem dX9_makeRow_4 : decode cX9_makeRow 4 = .ok (.iload_n 1, 1) := by decide +kernel
theorem dX9_makeRow_5 : decode cX9_makeRow 5 = .ok (.iload_n 2, 1) := by decide +kernel
theorem dX9_makeRow_6 : decode cX9_makeRow 6 = .ok (.iastore, 1) := by decide +kernel
theorem dX9_makeRow_7 : decode cX9_makeRow 7 = .ok (.iconst 0, 1) := by decide +kernel
theorem dX9_makeRow_8 : decode cX9_makeRow 8 = .ok (.istore_n 3, 1) := by decide +kernel
theorem dX9_makeRow_9 : decode cX9_makeRow 9 = .ok (.iload_n 3, 1) := by decide +kernel
theorem dX9_makeRow_10 : decode cX9_makeRow 10 = .ok (.bipush 40, 2) := by decide +kernel
theorem dX9_makeRow_12 : decode cX9_makeRow 12 = .ok (.if_icmp .ge 21, 3) := by decide +kernel
theorem dX9_makeRow_15 : decode cX9_makeRow 15 = .ok (.aload_n 0, 1) := by decide +kernel
theorem dX9_makeRow_16 : decode cX9_makeRow 16 = .ok (.getfield 28, 3) := by decide +kernel
theorem dX9_makeRow_19 : decode cX9_makeRow 19 = .ok (.bipush 40, 2) := by decide +kernel
theorem dX9_makeRow_21 : decode cX9_makeRow 21 = .ok (.iload_n 1, 1) := by decide +kernel
theorem dX9_makeRow_22 : decode cX9_makeRow 22 = .ok (.imul, 1) := by decide +kernel
theorem dX9_makeRow_23 : decode cX9_makeRow 23 = .ok (.iload_n 3, 1) := by decide +kernel
theorem dX9_makeRow_24 : decode cX9_makeRow 24 = .ok (.iadd, 1) := by decide +kernel
theorem dX9_makeRow_25 : decode cX9_makeRow 25 = .ok (.iconst 0, 1) := by decide +kernel
theorem dX9_makeRow_26 : decode cX9_makeRow 26 = .ok (.iastore, 1) := by decide +kernel
theorem dX9_makeRow_27 : decode cX9_makeRow 27 = .ok (.iinc 3 1, 3) := by decide +kernel
theorem dX9_makeRow_30 : decode cX9_makeRow 30 = .ok (.goto (-21), 3) := by decide +kernel
theorem dX9_makeRow_33 : decode cX9_makeRow 33 = .ok (.return_, 1) := by decide +kernel
def fX9_makeRow_9  : Nat → Nat → Int32 → Int32 → gz_H → Option (Unit × gz_H)
  | 0, _, _, _, _ => none
  | n + 1, a0, x1, x3, h =>
    if (40 : Int32) ≤ x3 then (
     some ((), h)
    ) else (
     gz_ck (gz_sh h a0 9 29) <|
     gz_br (h.2.2.2 a0 8) fun r_3 =>
     gz_ck (gz_inb h r_3 10 (((40 : Int32) * x1) + x3)) <|
     gz_lt (uI h r_3 (((40 : Int32) * x1) + x3).toNatClampNeg (0 : Int32)) fun h_5 =>
     fX9_makeRow_9 n a0 x1 (x3 + 1) h_5
    )
set_option maxRecDepth 100000 in
set_option maxHeartbeats 1000000 in
theorem sX9_makeRow_9 {G : gz_G} {d l0 s0 : Nat} {Q : Unit → gz_H → Prop} : ∀ (n : Nat) (a0 : Nat) (x1 : Int32) (x3 : Int32) (h : gz_H), gz_g (fX9_makeRow_9  n a0 x1 x3 h) Q → gz_Ok G mX9_makeRow (d + 0, l0, s0, 0, 0) 9 [.ref a0, .int x1, .retAddr 0, .int x3] [] h (gz_qu Q) := by
  intro n
  induction n with
  | zero => intro a0 x1 x3 h hf; exact False.elim hf
  | succ n ih =>
    intro a0 x1 x3 h hf
    rw [fX9_makeRow_9] at hf
    refine gz_iload_n (pc := 9) dX9_makeRow_9 rfl rfl ?_
    refine gz_bipush (v := (40 : Int32)) (pc := 10) dX9_makeRow_10 rfl ?_
    refine gz_icmp_ge (tgt := 33) (pc := 12) dX9_makeRow_12 rfl (fun c_1 => ?_) (fun c_1 => ?_)
    · have hf := gz_gT hf c_1
      exact gz_uret (pc := 33) dX9_makeRow_33 rfl hf
    · have hf := gz_gF hf c_1
      refine gz_aload_n (pc := 15) dX9_makeRow_15 rfl rfl ?_
      refine gz_gk hf (fun c_2 hf => ?_)
      refine gz_gb hf (fun r_3 er_3 hf => ?_)
      refine gz_getR (pc := 16) dX9_makeRow_16 fl_RX9_28 rfl (gz_shs c_2) er_3 ?_
      refine gz_bipush (v := (40 : Int32)) (pc := 19) dX9_makeRow_19 rfl ?_
      refine gz_iload_n (pc := 21) dX9_makeRow_21 rfl rfl ?_
      refine gz_imul (pc := 22) dX9_makeRow_22 ?_
      refine gz_iload_n (pc := 23) dX9_makeRow_23 rfl rfl ?_
      refine gz_iadd (pc := 24) dX9_makeRow_24 ?_
      refine gz_iconst (v := (0 : Int32)) (pc := 25) dX9_makeRow_25 rfl ?_
      refine gz_gk hf (fun c_4 hf => ?_)
      refine gz_iast (pc := 26) dX9_makeRow_26 c_4 ?_
      refine gz_nmH (fun h_5 eh_5 => ?_)
      have hf := gz_gl eh_5 hf
      refine gz_iinc (v := x3 + 1) (lv := [.ref a0, .int x1, .retAddr 0, .int (x3 + 1)]) (pc := 27) dX9_makeRow_27 rfl rfl (by decide) rfl ?_
      refine gz_goto (tgt := 9) (pc := 30) dX9_makeRow_30 rfl ?_
      exact ih a0 x1 (x3 + 1) h_5 hf
def fX9_makeRow_0  (a0 : Nat) (x1 : Int32) (x2 : Int32) (h : gz_H) : Option (Unit × gz_H) :=
    gz_ck (gz_sh h a0 9 29) <|
    gz_br (h.2.2.2 a0 7) fun r_2 =>
    gz_ck (gz_inb h r_2 10 x1) <|
    gz_lt (uI h r_2 x1.toNatClampNeg x2) fun h_4 =>
    fX9_makeRow_9 gz_fu a0 x1 (0 : Int32) h_4
set_option maxRecDepth 100000 in
set_option maxHeartbeats 1000000 in
theorem sX9_makeRow_0 {G : gz_G} {d l0 s0 : Nat} {Q : Unit → gz_H → Prop} (a0 : Nat) (x1 : Int32) (x2 : Int32) (h : gz_H) (hf : gz_g (fX9_makeRow_0  a0 x1 x2 h) Q) : gz_Ok G mX9_makeRow (d + 0, l0, s0, 0, 0) 0 [.ref a0, .int x1, .int x2, .retAddr 0] [] h (gz_qu Q) := by
  unfold fX9_makeRow_0 at hf
  refine gz_aload_n (pc := 0) dX9_makeRow_0 rfl rfl ?_
  refine gz_gk hf (fun c_1 hf => ?_)
  refine gz_gb hf (fun r_2 er_2 hf => ?_)
  refine gz_getR (pc := 1) dX9_makeRow_1 fl_RX9_25 rfl (gz_shs c_1) er_2 ?_
  refine gz_iload_n (pc := 4) dX9_makeRow_4 rfl rfl ?_
  refine gz_iload_n (pc := 5) dX9_makeRow_5 rfl rfl ?_
  refine gz_gk hf (fun c_3 hf => ?_)
  refine gz_iast (pc := 6) dX9_makeRow_6 c_3 ?_
  refine gz_nmH (fun h_4 eh_4 => ?_)
  have hf := gz_gl eh_4 hf
  refine gz_iconst (v := (0 : Int32)) (pc := 7) dX9_makeRow_7 rfl ?_
  refine gz_istore_n (lv := [.ref a0, .int x1, .int x2, .int (0 : Int32)]) (pc := 8) dX9_makeRow_8 rfl (by decide) rfl ?_
  refine gz_fg (lv := [.ref a0, .int x1, .retAddr 0, .int (0 : Int32)]) ⟨Or.inr rfl, ⟨Or.inr rfl, ⟨Or.inl rfl, ⟨Or.inr rfl, trivial⟩⟩⟩⟩ ?_
  exact sX9_makeRow_9 gz_fu a0 x1 (0 : Int32) h_4 hf
def fX9_makeRow (a0 : Nat) (x1 : Int32) (x2 : Int32) (h : gz_H) : Option (Unit × gz_H) := fX9_makeRow_0 a0 x1 x2 h
theorem sX9_makeRow {G : gz_G} {d : Nat} {a0 : Nat} {x1 : Int32} {x2 : Int32} {h : gz_H} {Q : Unit → gz_H → Prop} (hf : gz_g (fX9_makeRow a0 x1 x2 h) Q) : gz_Cl G mX9_makeRow (d + 0) 0 0 [.ref a0, .int x1, .int x2] h (gz_qu Q) := gz_cl_of (lo := [.ref a0, .int x1, .int x2, .retAddr 0]) (by decide) rfl rfl (Nat.le_of_ble_eq_true rfl) (sX9_makeRow_0 a0 x1 x2 h hf)
theorem dX9_row_0 : decode cX9_row 0 = .ok (.iload_n 1, 1) := by decide +kernel
theorem dX9_row_1 : decode cX9_row 1 = .ok (.invokestatic 80, 3) := by decide +kernel
theorem dX9_row_4 : decode cX9_row 4 = .ok (.ifCond .eq 9, 3) := by decide +kernel
theorem dX9_row_7 : decode cX9_row 7 = .ok (.iload_n 2, 1) := by decide +kernel
theorem dX9_row_8 : decode cX9_row 8 = .ok (.bipush 40, 2) := by decide +kernel
theorem dX9_row_10 : decode cX9_row 10 = .ok (.if_icmp .le 5, 3) := by decide +kernel
theorem dX9_row_13 : decode cX9_row 13 = .ok (.iconst (-1), 1) := by decide +kernel
theorem dX9_row_14 : decode cX9_row 14 = .ok (.ireturn, 1) := by decide +kernel
theorem dX9_row_15 : decode cX9_row 15 = .ok (.iload_n 2, 1) := by decide +kernel
theorem dX9_row_16 : decode cX9_row 16 = .ok (.ifCond .ge 9, 3) := by decide +kernel
theorem dX9_row_19 : decode cX9_row 19 = .ok (.aload_n 0, 1) := by decide +kernel
theorem dX9_row_20 : decode cX9_row 20 = .ok (.iconst 5, 1) := by decide +kernel
theorem dX9_row_21 : decode cX9_row 21 = .ok (.invokevirtual 84, 3) := by decide +kernel
theorem dX9_row_24 : decode cX9_row 24 = .ok (.ireturn, 1) := by decide +kernel
theorem dX9_row_25 : decode cX9_row 25 = .ok (.aload_n 0, 1) := by decide +kernel
theorem dX9_row_26 : decode cX9_row 26 = .ok (.iload_n 1, 1) := by decide +kernel
theorem dX9_row_27 : decode cX9_row 27 = .ok (.iload_n 2, 1) := by decide +kernel
theorem dX9_row_28 : decode cX9_row 28 = .ok (.invokevirtual 88, 3) := by decide +kernel
theorem dX9_row_31 : decode cX9_row 31 = .ok (.iload_n 2, 1) := by decide +kernel
theorem dX9_row_32 : decode cX9_row 32 = .ok (.ireturn, 1) := by decide +kernel
def fX9_row_0  (a0 : Nat) (x1 : Int32) (x2 : Int32) (h : gz_H) : Option (Int32 × gz_H) :=
    gz_b2 (fX9_isRow x1 h) fun y_2 h_1 =>
    if y_2 = 0 then (
     some ((-1 : Int32), h_1)
    ) else (
     if x2 ≤ (40 : Int32) then (
      if 0 ≤ x2 then (
       gz_ck (gz_sh h_1 a0 9 29) <|
       gz_b2 (fX9_makeRow a0 x1 x2 h_1) fun _ h_6 =>
       some (x2, h_6)
      ) else (
       gz_ck (gz_sh h_1 a0 9 29) <|
       gz_b2 (fX9_find a0 (5 : Int32) h_1) fun y_10 h_9 =>
       some (y_10, h_9)
      )
     ) else (
      some ((-1 : Int32), h_1)
     )
    )
set_option maxRecDepth 100000 in
set_option maxHeartbeats 1000000 in
theorem sX9_row_0 {G : gz_G} {d l0 s0 : Nat} {Q : Int32 → gz_H → Prop} (a0 : Nat) (x1 : Int32) (x2 : Int32) (h : gz_H) (hf : gz_g (fX9_row_0  a0 x1 x2 h) Q) : gz_Ok G mX9_row (d + 2, l0, s0, 0, 0) 0 [.ref a0, .int x1, .int x2] [] h (gz_qi Q) := by
  unfold fX9_row_0 at hf
  refine gz_iload_n (pc := 0) dX9_row_0 rfl rfl ?_
  refine gz_cSI (av := [.int x1]) (st := []) (pc := 1) dX9_row_1 kl_RX9_80 rfl rfl (Nat.le_of_ble_eq_true rfl) (by show d + 0 + 1 + 1 ≤ d + 2; omega) (sX9_isRow (d := d + 0) (gz_gc hf)) (fun y_2 h_1 hf => ?_)
  refine gz_if_eq (tgt := 13) (pc := 4) dX9_row_4 rfl (fun c_3 => ?_) (fun c_3 => ?_)
  · have hf := gz_gT hf c_3
    refine gz_iconst (v := (-1 : Int32)) (pc := 13) dX9_row_13 rfl ?_
    exact gz_irt (pc := 14) dX9_row_14 rfl rfl hf
  · have hf := gz_gF hf c_3
    refine gz_iload_n (pc := 7) dX9_row_7 rfl rfl ?_
    refine gz_bipush (v := (40 : Int32)) (pc := 8) dX9_row_8 rfl ?_
    refine gz_icmp_le (tgt := 15) (pc := 10) dX9_row_10 rfl (fun c_4 => ?_) (fun c_4 => ?_)
    · have hf := gz_gT hf c_4
      refine gz_iload_n (pc := 15) dX9_row_15 rfl rfl ?_
      refine gz_if_ge (tgt := 25) (pc := 16) dX9_row_16 rfl (fun c_5 => ?_) (fun c_5 => ?_)
      · have hf := gz_gT hf c_5
        refine gz_aload_n (pc := 25) dX9_row_25 rfl rfl ?_
        refine gz_iload_n (pc := 26) dX9_row_26 rfl rfl ?_
        refine gz_iload_n (pc := 27) dX9_row_27 rfl rfl ?_
        refine gz_gk hf (fun c_8 hf => ?_)
        refine gz_cVV (av := [.int x1, .int x2]) (st := []) (pc := 28) dX9_row_28 kl_RX9_88 rfl (gz_shs c_8) rfl rfl (Nat.le_of_ble_eq_true rfl) (by show d + 1 + 0 + 1 ≤ d + 2; omega) (sX9_makeRow (d := d + 1) (gz_gc hf)) (fun _ h_6 hf => ?_)
        refine gz_iload_n (pc := 31) dX9_row_31 rfl rfl ?_
        exact gz_irt (pc := 32) dX9_row_32 rfl rfl hf
      · have hf := gz_gF hf c_5
        refine gz_aload_n (pc := 19) dX9_row_19 rfl rfl ?_
        refine gz_iconst (v := (5 : Int32)) (pc := 20) dX9_row_20 rfl ?_
        refine gz_gk hf (fun c_11 hf => ?_)
        refine gz_cVI (av := [.int (5 : Int32)]) (st := []) (pc := 21) dX9_row_21 kl_RX9_84 rfl (gz_shs c_11) rfl rfl (Nat.le_of_ble_eq_true rfl) (by show d + 1 + 0 + 1 ≤ d + 2; omega) (sX9_find (d := d + 1) (gz_gc hf)) (fun y_10 h_9 hf => ?_)
        exact gz_irt (pc := 24) dX9_row_24 rfl rfl hf
    · have hf := gz_gF hf c_4
      refine gz_iconst (v := (-1 : Int32)) (pc := 13) dX9_row_13 rfl ?_
      exact gz_irt (pc := 14) dX9_row_14 rfl rfl hf
def fX9_row (a0 : Nat) (x1 : Int32) (x2 : Int32) (h : gz_H) : Option (Int32 × gz_H) := fX9_row_0 a0 x1 x2 h
theorem sX9_row {G : gz_G} {d : Nat} {a0 : Nat} {x1 : Int32} {x2 : Int32} {h : gz_H} {Q : Int32 → gz_H → Prop} (hf : gz_g (fX9_row a0 x1 x2 h) Q) : gz_Cl G mX9_row (d + 2) 0 0 [.ref a0, .int x1, .int x2] h (gz_qi Q) := gz_cl_of (lo := [.ref a0, .int x1, .int x2]) (by decide) rfl rfl (Nat.le_of_ble_eq_true rfl) (sX9_row_0 a0 x1 x2 h hf)
theorem dX9_refused_0 : decode cX9_refused 0 = .ok (.iload_n 1, 1) := by decide +kernel
theorem dX9_refused_1 : decode cX9_refused 1 = .ok (.invokestatic 80, 3) := by decide +kernel
theorem dX9_refused_4 : decode cX9_refused 4 = .ok (.ifCond .ne 7, 3) := by decide +kernel
theorem dX9_refused_7 : decode cX9_refused 7 = .ok (.iconst (-1), 1) := by decide +kernel
theorem dX9_refused_8 : decode cX9_refused 8 = .ok (.goto 47, 3) := by decide +kernel
theorem dX9_refused_11 : decode cX9_refused 11 = .ok (.aload_n 0, 1) := by decide +kernel
theorem dX9_refused_12 : decode cX9_refused 12 = .ok (.getfield 25, 3) := by decide +kernel
theorem dX9_refused_15 : decode cX9_refused 15 = .ok (.iload_n 1, 1) := by decide +kernel
theorem dX9_refused_16 : decode cX9_refused 16 = .ok (.iaload, 1) := by decide +kernel
theorem dX9_refused_17 : decode cX9_refused 17 = .ok (.ifCond .ge 11, 3) := by decide +kernel
theorem dX9_refused_20 : decode cX9_refused 20 = .ok (.aload_n 0, 1) := by decide +kernel
theorem dX9_refused_21 : decode cX9_refused 21 = .ok (.iconst 1, 1) := by decide +kernel
theorem dX9_refused_22 : decode cX9_refused 22 = .ok (.invokevirtual 84, 3) := by decide +kernel
theorem dX9_refused_25 : decode cX9_refused 25 = .ok (.goto 30, 3) := by decide +kernel
theorem dX9_refused_28 : decode cX9_refused 28 = .ok (.iload_n 2, 1) := by decide +kernel
theorem dX9_refused_29 : decode cX9_refused 29 = .ok (.i2l, 1) := by decide +kernel
theorem dX9_refused_30 : decode cX9_refused 30 = .ok (.lconst 0, 1) := by decide +kernel
theorem dX9_refused_31 : decode cX9_refused 31 = .ok (.aload_n 0, 1) := by decide +kernel
theorem dX9_refused_32 : decode cX9_refused 32 = .ok (.getfield 25, 3) := by decide +kernel
theorem dX9_refused_35 : decode cX9_refused 35 = .ok (.iload_n 1, 1) := by decide +kernel
theorem dX9_refused_36 : decode cX9_refused 36 = .ok (.iaload, 1) := by decide +kernel
theorem dX9_refused_37 : decode cX9_refused 37 = .ok (.iconst 1, 1) := by decide +kernel
theorem dX9_refused_38 : decode cX9_refused 38 = .ok (.isub, 1) := by decide +kernel
theorem dX9_refused_39 : decode cX9_refused 39 = .ok (.i2l, 1) := by decide +kernel
theorem dX9_refused_40 : decode cX9_refused 40 = .ok (.invokestatic 74, 3) := by decide +kernel
theorem dX9_refused_43 : decode cX9_refused 43 = .ok (.ifCond .eq 7, 3) := by decide +kernel
theorem dX9_refused_46 : decode cX9_refused 46 = .ok (.iconst 0, 1) := by decide +kernel
theorem dX9_refused_47 : decode cX9_refused 47 = .ok (.goto 8, 3) := by decide +kernel
theorem dX9_refused_50 : decode cX9_refused 50 = .ok (.aload_n 0, 1) := by decide +kernel
theorem dX9_refused_51 : decode cX9_refused 51 = .ok (.iconst 2, 1) := by decide +kernel
theorem dX9_refused_52 : decode cX9_refused 52 = .ok (.invokevirtual 84, 3) := by decide +kernel
theorem dX9_refused_55 : decode cX9_refused 55 = .ok (.ireturn, 1) := by decide +kernel
def fX9_refused_0  (a0 : Nat) (x1 : Int32) (x2 : Int32) (h : gz_H) : Option (Int32 × gz_H) :=
    gz_b2 (fX9_isRow x1 h) fun y_2 h_1 =>
    if y_2 = 0 then (
     some ((-1 : Int32), h_1)
    ) else (
     gz_ck (gz_sh h_1 a0 9 29) <|
     gz_br (h_1.2.2.2 a0 7) fun r_5 =>
     gz_ck (gz_inb h_1 r_5 10 x1) <|
     if 0 ≤ (h_1.2.1 r_5 x1.toNatClampNeg) then (
      gz_b2 (fX9_in x2.toInt64 (0 : Int64) (((h_1.2.1 r_5 x1.toNatClampNeg) - (1 : Int32)).toInt64) h_1) fun y_9 h_8 =>
      if y_9 = 0 then (
       gz_ck (gz_sh h_8 a0 9 29) <|
       gz_b2 (fX9_find a0 (2 : Int32) h_8) fun y_12 h_11 =>
       some (y_12, h_11)
      ) else (
       some ((0 : Int32), h_8)
      )
     ) else (
      gz_b2 (fX9_find a0 (1 : Int32) h_1) fun y_15 h_14 =>
      some (y_15, h_14)
     )
    )
set_option maxRecDepth 100000 in
set_option maxHeartbeats 1000000 in
theorem sX9_refused_0 {G : gz_G} {d l0 s0 : Nat} {Q : Int32 → gz_H → Prop} (a0 : Nat) (x1 : Int32) (x2 : Int32) (h : gz_H) (hf : gz_g (fX9_refused_0  a0 x1 x2 h) Q) : gz_Ok G mX9_refused (d + 2, l0, s0, 0, 0) 0 [.ref a0, .int x1, .int x2] [] h (gz_qi Q) := by
  unfold fX9_refused_0 at hf
  refine gz_iload_n (pc := 0) dX9_refused_0 rfl rfl ?_
  refine gz_cSI (av := [.int x1]) (st := []) (pc := 1) dX9_refused_1 kl_RX9_80 rfl rfl (Nat.le_of_ble_eq_true rfl) (by show d + 0 + 1 + 1 ≤ d + 2; omega) (sX9_isRow (d := d + 0) (gz_gc hf)) (fun y_2 h_1 hf => ?_)
  refine gz_if_ne (tgt := 11) (pc := 4) dX9_refused_4 rfl (fun c_3 => ?_) (fun c_3 => ?_)
  · have hf := gz_gF hf c_3
    refine gz_aload_n (pc := 11) dX9_refused_11 rfl rfl ?_
    refine gz_gk hf (fun c_4 hf => ?_)
    refine gz_gb hf (fun r_5 er_5 hf => ?_)
    refine gz_getR (pc := 12) dX9_refused_12 fl_RX9_25 rfl (gz_shs c_4) er_5 ?_
    refine gz_iload_n (pc := 15) dX9_refused_15 rfl rfl ?_
    refine gz_gk hf (fun c_6 hf => ?_)
    refine gz_iald (pc := 16) dX9_refused_16 c_6 ?_
    refine gz_if_ge (tgt := 28) (pc := 17) dX9_refused_17 rfl (fun c_7 => ?_) (fun c_7 => ?_)
    · have hf := gz_gT hf c_7
      refine gz_iload_n (pc := 28) dX9_refused_28 rfl rfl ?_
      refine gz_i2l (pc := 29) dX9_refused_29 ?_
      refine gz_lconst (v := (0 : Int64)) (pc := 30) dX9_refused_30 rfl ?_
      refine gz_aload_n (pc := 31) dX9_refused_31 rfl rfl ?_
      refine gz_getR (pc := 32) dX9_refused_32 fl_RX9_25 rfl (gz_shs c_4) er_5 ?_
      refine gz_iload_n (pc := 35) dX9_refused_35 rfl rfl ?_
      refine gz_iald (pc := 36) dX9_refused_36 c_6 ?_
      refine gz_iconst (v := (1 : Int32)) (pc := 37) dX9_refused_37 rfl ?_
      refine gz_isub (pc := 38) dX9_refused_38 ?_
      refine gz_i2l (pc := 39) dX9_refused_39 ?_
      refine gz_cSI (av := [.long x2.toInt64, .long (0 : Int64), .long (((h_1.2.1 r_5 x1.toNatClampNeg) - (1 : Int32)).toInt64)]) (st := []) (pc := 40) dX9_refused_40 kl_RX9_74 rfl rfl (Nat.le_of_ble_eq_true rfl) (by show d + 1 + 0 + 1 ≤ d + 2; omega) (sX9_in (d := d + 1) (gz_gc hf)) (fun y_9 h_8 hf => ?_)
      refine gz_if_eq (tgt := 50) (pc := 43) dX9_refused_43 rfl (fun c_10 => ?_) (fun c_10 => ?_)
      · have hf := gz_gT hf c_10
        refine gz_aload_n (pc := 50) dX9_refused_50 rfl rfl ?_
        refine gz_iconst (v := (2 : Int32)) (pc := 51) dX9_refused_51 rfl ?_
        refine gz_gk hf (fun c_13 hf => ?_)
        refine gz_cVI (av := [.int (2 : Int32)]) (st := []) (pc := 52) dX9_refused_52 kl_RX9_84 rfl (gz_shs c_13) rfl rfl (Nat.le_of_ble_eq_true rfl) (by show d + 1 + 0 + 1 ≤ d + 2; omega) (sX9_find (d := d + 1) (gz_gc hf)) (fun y_12 h_11 hf => ?_)
        exact gz_irt (pc := 55) dX9_refused_55 rfl rfl hf
      · have hf := gz_gF hf c_10
        refine gz_iconst (v := (0 : Int32)) (pc := 46) dX9_refused_46 rfl ?_
        refine gz_goto (tgt := 55) (pc := 47) dX9_refused_47 rfl ?_
        exact gz_irt (pc := 55) dX9_refused_55 rfl rfl hf
    · have hf := gz_gF hf c_7
      refine gz_aload_n (pc := 20) dX9_refused_20 rfl rfl ?_
      refine gz_iconst (v := (1 : Int32)) (pc := 21) dX9_refused_21 rfl ?_
      refine gz_cVI (av := [.int (1 : Int32)]) (st := []) (pc := 22) dX9_refused_22 kl_RX9_84 rfl (gz_shs c_4) rfl rfl (Nat.le_of_ble_eq_true rfl) (by show d + 1 + 0 + 1 ≤ d + 2; omega) (sX9_find (d := d + 1) (gz_gc hf)) (fun y_15 h_14 hf => ?_)
      refine gz_goto (tgt := 55) (pc := 25) dX9_refused_25 rfl ?_
      exact gz_irt (pc := 55) dX9_refused_55 rfl rfl hf
  · have hf := gz_gT hf c_3
    refine gz_iconst (v := (-1 : Int32)) (pc := 7) dX9_refused_7 rfl ?_
    refine gz_goto (tgt := 55) (pc := 8) dX9_refused_8 rfl ?_
    exact gz_irt (pc := 55) dX9_refused_55 rfl rfl hf
def fX9_refused (a0 : Nat) (x1 : Int32) (x2 : Int32) (h : gz_H) : Option (Int32 × gz_H) := fX9_refused_0 a0 x1 x2 h
theorem sX9_refused {G : gz_G} {d : Nat} {a0 : Nat} {x1 : Int32} {x2 : Int32} {h : gz_H} {Q : Int32 → gz_H → Prop} (hf : gz_g (fX9_refused a0 x1 x2 h) Q) : gz_Cl G mX9_refused (d + 2) 0 0 [.ref a0, .int x1, .int x2] h (gz_qi Q) := gz_cl_of (lo := [.ref a0, .int x1, .int x2]) (by decide) rfl rfl (Nat.le_of_ble_eq_true rfl) (sX9_refused_0 a0 x1 x2 h hf)
theorem dX9_lay_0 : decode cX9_lay 0 = .ok (.aload_n 0, 1) := by decide +kernel
theorem dX9_lay_1 : decode cX9_lay 1 = .ok (.iload_n 1, 1) := by decide +kernel
theorem dX9_lay_2 : decode cX9_lay 2 = .ok (.iload_n 2, 1) := by decide +kernel
theorem dX9_lay_3 : decode cX9_lay 3 = .ok (.invokevirtual 92, 3) := by decide +kernel
theorem dX9_lay_6 : decode cX9_lay 6 = .ok (.istore 4, 2) := by decide +kernel
theorem dX9_lay_8 : decode cX9_lay 8 = .ok (.iload 4, 2) := by decide +kernel
theorem dX9_lay_10 : decode cX9_lay 10 = .ok (.ifCond .eq 6, 3) := by decide +kernel
theorem dX9_lay_13 : decode cX9_lay 13 = .ok (.iload 4, 2) := by decide +kernel
theorem dX9_lay_15 : decode cX9_lay 15 = .ok (.ireturn, 1) := by decide +kernel
theorem dX9_lay_16 : decode cX9_lay 16 = .ok (.aload_n 0, 1) := by decide +kernel
theorem dX9_lay_17 : decode cX9_lay 17 = .ok (.getfield 28, 3) := by decide +kernel
theorem dX9_lay_20 : decode cX9_lay 20 = .ok (.bipush 40, 2) := by decide +kernel
theorem dX9_lay_22 : decode cX9_lay 22 = .ok (.iload_n 1, 1) := by decide +kernel
theorem dX9_lay_23 : decode cX9_lay 23 = .ok (.imul, 1) := by decide +kernel
theorem dX9_lay_24 : decode cX9_lay 24 = .ok (.iload_n 2, 1) := by decide +kernel
theorem dX9_lay_25 : decode cX9_lay 25 = .ok (.iadd, 1) := by decide +kernel
theorem dX9_lay_26 : decode cX9_lay 26 = .ok (.iaload, 1) := by decide +kernel
theorem dX9_lay_27 : decode cX9_lay 27 = .ok (.istore 5, 2) := by decide +kernel
theorem dX9_lay_29 : decode cX9_lay 29 = .ok (.aload_n 0, 1) := by decide +kernel
theorem dX9_lay_30 : decode cX9_lay 30 = .ok (.getfield 28, 3) := by decide +kernel
theorem dX9_lay_33 : decode cX9_lay 33 = .ok (.bipush 40, 2) := by decide +kernel
theorem dX9_lay_35 : decode cX9_lay 35 = .ok (.iload_n 1, 1) := by decide +kernel
theorem dX9_lay_36 : decode cX9_lay 36 = .ok (.imul, 1) := by decide +kernel
theorem dX9_lay_37 : decode cX9_lay 37 = .ok (.iload_n 2, 1) := by decide +kernel
theorem dX9_lay_38 : decode cX9_lay 38 = .ok (.iadd, 1) := by decide +kernel
theorem dX9_lay_39 : decode cX9_lay 39 = .ok (.iload_n 3, 1) := by decide +kernel
theorem dX9_lay_40 : decode cX9_lay 40 = .ok (.iastore, 1) := by decide +kernel
theorem dX9_lay_41 : decode cX9_lay 41 = .ok (.aload_n 0, 1) := by decide +kernel
theorem dX9_lay_42 : decode cX9_lay 42 = .ok (.iload 5, 2) := by decide +kernel
theorem dX9_lay_44 : decode cX9_lay 44 = .ok (.invokevirtual 96, 3) := by decide +kernel
theorem dX9_lay_47 : decode cX9_lay 47 = .ok (.ireturn, 1) := by decide +kernel
def fX9_lay_0  (a0 : Nat) (x1 : Int32) (x2 : Int32) (x3 : Int32) (h : gz_H) : Option (Int32 × gz_H) :=
    gz_ck (gz_sh h a0 9 29) <|
    gz_b2 (fX9_refused a0 x1 x2 h) fun y_2 h_1 =>
    if y_2 = 0 then (
     gz_ck (gz_sh h_1 a0 9 29) <|
     gz_br (h_1.2.2.2 a0 8) fun r_6 =>
     gz_ck (gz_inb h_1 r_6 10 (((40 : Int32) * x1) + x2)) <|
     gz_lt (h_1.2.1 r_6 (((40 : Int32) * x1) + x2).toNatClampNeg) fun (y_8 : Int32) =>
     gz_lt (uI h_1 r_6 (((40 : Int32) * x1) + x2).toNatClampNeg x3) fun h_9 =>
     gz_ck (gz_sh h_9 a0 9 29) <|
     gz_b2 (fX9_tell a0 y_8 h_9) fun y_11 h_10 =>
     some (y_11, h_10)
    ) else (
     some (y_2, h_1)
    )
set_option maxRecDepth 100000 in
set_option maxHeartbeats 1000000 in
theorem sX9_lay_0 {G : gz_G} {d l0 s0 : Nat} {Q : Int32 → gz_H → Prop} (a0 : Nat) (x1 : Int32) (x2 : Int32) (x3 : Int32) (h : gz_H) (hf : gz_g (fX9_lay_0  a0 x1 x2 x3 h) Q) : gz_Ok G mX9_lay (d + 3, l0, s0, 0, 0) 0 [.ref a0, .int x1, .int x2, .int x3, .retAddr 0, .retAddr 0] [] h (gz_qi Q) := by
  unfold fX9_lay_0 at hf
  refine gz_aload_n (pc := 0) dX9_lay_0 rfl rfl ?_
  refine gz_iload_n (pc := 1) dX9_lay_1 rfl rfl ?_
  refine gz_iload_n (pc := 2) dX9_lay_2 rfl rfl ?_
  refine gz_gk hf (fun c_3 hf => ?_)
  refine gz_cVI (av := [.int x1, .int x2]) (st := []) (pc := 3) dX9_lay_3 kl_RX9_92 rfl (gz_shs c_3) rfl rfl (Nat.le_of_ble_eq_true rfl) (by show d + 0 + 2 + 1 ≤ d + 3; omega) (sX9_refused (d := d + 0) (gz_gc hf)) (fun y_2 h_1 hf => ?_)
  refine gz_istore (lv := [.ref a0, .int x1, .int x2, .int x3, .int y_2, .retAddr 0]) (pc := 6) dX9_lay_6 (by decide) rfl ?_
  refine gz_iload (pc := 8) dX9_lay_8 rfl ?_
  refine gz_if_eq (tgt := 16) (pc := 10) dX9_lay_10 rfl (fun c_4 => ?_) (fun c_4 => ?_)
  · have hf := gz_gT hf c_4
    refine gz_aload_n (pc := 16) dX9_lay_16 rfl rfl ?_
    refine gz_gk hf (fun c_5 hf => ?_)
    refine gz_gb hf (fun r_6 er_6 hf => ?_)
    refine gz_getR (pc := 17) dX9_lay_17 fl_RX9_28 rfl (gz_shs c_5) er_6 ?_
    refine gz_bipush (v := (40 : Int32)) (pc := 20) dX9_lay_20 rfl ?_
    refine gz_iload_n (pc := 22) dX9_lay_22 rfl rfl ?_
    refine gz_imul (pc := 23) dX9_lay_23 ?_
    refine gz_iload_n (pc := 24) dX9_lay_24 rfl rfl ?_
    refine gz_iadd (pc := 25) dX9_lay_25 ?_
    refine gz_gk hf (fun c_7 hf => ?_)
    refine gz_iald (pc := 26) dX9_lay_26 c_7 ?_
    refine gz_nmI (fun y_8 ey_8 => ?_)
    have hf := gz_gl ey_8 hf
    refine gz_istore (lv := [.ref a0, .int x1, .int x2, .int x3, .int y_2, .int y_8]) (pc := 27) dX9_lay_27 (by decide) rfl ?_
    refine gz_aload_n (pc := 29) dX9_lay_29 rfl rfl ?_
    refine gz_getR (pc := 30) dX9_lay_30 fl_RX9_28 rfl (gz_shs c_5) er_6 ?_
    refine gz_bipush (v := (40 : Int32)) (pc := 33) dX9_lay_33 rfl ?_
    refine gz_iload_n (pc := 35) dX9_lay_35 rfl rfl ?_
    refine gz_imul (pc := 36) dX9_lay_36 ?_
    refine gz_iload_n (pc := 37) dX9_lay_37 rfl rfl ?_
    refine gz_iadd (pc := 38) dX9_lay_38 ?_
    refine gz_iload_n (pc := 39) dX9_lay_39 rfl rfl ?_
    refine gz_iast (pc := 40) dX9_lay_40 c_7 ?_
    refine gz_nmH (fun h_9 eh_9 => ?_)
    have hf := gz_gl eh_9 hf
    refine gz_aload_n (pc := 41) dX9_lay_41 rfl rfl ?_
    refine gz_iload (pc := 42) dX9_lay_42 rfl ?_
    refine gz_gk hf (fun c_12 hf => ?_)
    refine gz_cVI (av := [.int y_8]) (st := []) (pc := 44) dX9_lay_44 kl_RX9_96 rfl (gz_shs c_12) rfl rfl (Nat.le_of_ble_eq_true rfl) (by show d + 2 + 0 + 1 ≤ d + 3; omega) (sX9_tell (d := d + 2) (gz_gc hf)) (fun y_11 h_10 hf => ?_)
    exact gz_irt (pc := 47) dX9_lay_47 rfl rfl hf
  · have hf := gz_gF hf c_4
    refine gz_iload (pc := 13) dX9_lay_13 rfl ?_
    exact gz_irt (pc := 15) dX9_lay_15 rfl rfl hf
def fX9_lay (a0 : Nat) (x1 : Int32) (x2 : Int32) (x3 : Int32) (h : gz_H) : Option (Int32 × gz_H) := fX9_lay_0 a0 x1 x2 x3 h
theorem sX9_lay {G : gz_G} {d : Nat} {a0 : Nat} {x1 : Int32} {x2 : Int32} {x3 : Int32} {h : gz_H} {Q : Int32 → gz_H → Prop} (hf : gz_g (fX9_lay a0 x1 x2 x3 h) Q) : gz_Cl G mX9_lay (d + 3) 0 0 [.ref a0, .int x1, .int x2, .int x3] h (gz_qi Q) := gz_cl_of (lo := [.ref a0, .int x1, .int x2, .int x3, .retAddr 0, .retAddr 0]) (by decide) rfl rfl (Nat.le_of_ble_eq_true rfl) (sX9_lay_0 a0 x1 x2 x3 h hf)
theorem dX9_at_0 : decode cX9_at 0 = .ok (.aload_n 0, 1) := by decide +kernel
theorem dX9_at_1 : decode cX9_at 1 = .ok (.iload_n 1, 1) := by decide +kernel
theorem dX9_at_2 : decode cX9_at 2 = .ok (.iload_n 2, 1) := by decide +kernel
theorem dX9_at_3 : decode cX9_at 3 = .ok (.invokevirtual 92, 3) := by decide +kernel
theorem dX9_at_6 : decode cX9_at 6 = .ok (.istore_n 3, 1) := by decide +kernel
theorem dX9_at_7 : decode cX9_at 7 = .ok (.iload_n 3, 1) := by decide +kernel
theorem dX9_at_8 : decode cX9_at 8 = .ok (.ifCond .eq 7, 3) := by decide +kernel
theorem dX9_at_11 : decode cX9_at 11 = .ok (.iload_n 3, 1) := by decide +kernel
theorem dX9_at_12 : decode cX9_at 12 = .ok (.goto 18, 3) := by decide +kernel
theorem dX9_at_15 : decode cX9_at 15 = .ok (.aload_n 0, 1) := by decide +kernel
theorem dX9_at_16 : decode cX9_at 16 = .ok (.aload_n 0, 1) := by decide +kernel
theorem dX9_at_17 : decode cX9_at 17 = .ok (.getfield 28, 3) := by decide +kernel
theorem dX9_at_20 : decode cX9_at 20 = .ok (.bipush 40, 2) := by decide +kernel
theorem dX9_at_22 : decode cX9_at 22 = .ok (.iload_n 1, 1) := by decide +kernel
theorem dX9_at_23 : decode cX9_at 23 = .ok (.imul, 1) := by decide +kernel
theorem dX9_at_24 : decode cX9_at 24 = .ok (.iload_n 2, 1) := by decide +kernel
theorem dX9_at_25 : decode cX9_at 25 = .ok (.iadd, 1) := by decide +kernel
theorem dX9_at_26 : decode cX9_at 26 = .ok (.iaload, 1) := by decide +kernel
theorem dX9_at_27 : decode cX9_at 27 = .ok (.invokevirtual 96, 3) := by decide +kernel
theorem dX9_at_30 : decode cX9_at 30 = .ok (.ireturn, 1) := by decide +kernel
def fX9_at_0  (a0 : Nat) (x1 : Int32) (x2 : Int32) (h : gz_H) : Option (Int32 × gz_H) :=
    gz_ck (gz_sh h a0 9 29) <|
    gz_b2 (fX9_refused a0 x1 x2 h) fun y_2 h_1 =>
    if y_2 = 0 then (
     gz_ck (gz_sh h_1 a0 9 29) <|
     gz_br (h_1.2.2.2 a0 8) fun r_6 =>
     gz_ck (gz_inb h_1 r_6 10 (((40 : Int32) * x1) + x2)) <|
     gz_b2 (fX9_tell a0 (h_1.2.1 r_6 (((40 : Int32) * x1) + x2).toNatClampNeg) h_1) fun y_9 h_8 =>
     some (y_9, h_8)
    ) else (
     some (y_2, h_1)
    )
set_option maxRecDepth 100000 in
set_option maxHeartbeats 1000000 in
theorem sX9_at_0 {G : gz_G} {d l0 s0 : Nat} {Q : Int32 → gz_H → Prop} (a0 : Nat) (x1 : Int32) (x2 : Int32) (h : gz_H) (hf : gz_g (fX9_at_0  a0 x1 x2 h) Q) : gz_Ok G mX9_at (d + 3, l0, s0, 0, 0) 0 [.ref a0, .int x1, .int x2, .retAddr 0] [] h (gz_qi Q) := by
  unfold fX9_at_0 at hf
  refine gz_aload_n (pc := 0) dX9_at_0 rfl rfl ?_
  refine gz_iload_n (pc := 1) dX9_at_1 rfl rfl ?_
  refine gz_iload_n (pc := 2) dX9_at_2 rfl rfl ?_
  refine gz_gk hf (fun c_3 hf => ?_)
  refine gz_cVI (av := [.int x1, .int x2]) (st := []) (pc := 3) dX9_at_3 kl_RX9_92 rfl (gz_shs c_3) rfl rfl (Nat.le_of_ble_eq_true rfl) (by show d + 0 + 2 + 1 ≤ d + 3; omega) (sX9_refused (d := d + 0) (gz_gc hf)) (fun y_2 h_1 hf => ?_)
  refine gz_istore_n (lv := [.ref a0, .int x1, .int x2, .int y_2]) (pc := 6) dX9_at_6 rfl (by decide) rfl ?_
  refine gz_iload_n (pc := 7) dX9_at_7 rfl rfl ?_
  refine gz_if_eq (tgt := 15) (pc := 8) dX9_at_8 rfl (fun c_4 => ?_) (fun c_4 => ?_)
  · have hf := gz_gT hf c_4
    refine gz_aload_n (pc := 15) dX9_at_15 rfl rfl ?_
    refine gz_aload_n (pc := 16) dX9_at_16 rfl rfl ?_
    refine gz_gk hf (fun c_5 hf => ?_)
    refine gz_gb hf (fun r_6 er_6 hf => ?_)
    refine gz_getR (pc := 17) dX9_at_17 fl_RX9_28 rfl (gz_shs c_5) er_6 ?_
    refine gz_bipush (v := (40 : Int32)) (pc := 20) dX9_at_20 rfl ?_
    refine gz_iload_n (pc := 22) dX9_at_22 rfl rfl ?_
    refine gz_imul (pc := 23) dX9_at_23 ?_
    refine gz_iload_n (pc := 24) dX9_at_24 rfl rfl ?_
    refine gz_iadd (pc := 25) dX9_at_25 ?_
    refine gz_gk hf (fun c_7 hf => ?_)
    refine gz_iald (pc := 26) dX9_at_26 c_7 ?_
    refine gz_cVI (av := [.int (h_1.2.1 r_6 (((40 : Int32) * x1) + x2).toNatClampNeg)]) (st := []) (pc := 27) dX9_at_27 kl_RX9_96 rfl (gz_shs c_5) rfl rfl (Nat.le_of_ble_eq_true rfl) (by show d + 2 + 0 + 1 ≤ d + 3; omega) (sX9_tell (d := d + 2) (gz_gc hf)) (fun y_9 h_8 hf => ?_)
    exact gz_irt (pc := 30) dX9_at_30 rfl rfl hf
  · have hf := gz_gF hf c_4
    refine gz_iload_n (pc := 11) dX9_at_11 rfl rfl ?_
    refine gz_goto (tgt := 30) (pc := 12) dX9_at_12 rfl ?_
    exact gz_irt (pc := 30) dX9_at_30 rfl rfl hf
def fX9_at (a0 : Nat) (x1 : Int32) (x2 : Int32) (h : gz_H) : Option (Int32 × gz_H) := fX9_at_0 a0 x1 x2 h
theorem sX9_at {G : gz_G} {d : Nat} {a0 : Nat} {x1 : Int32} {x2 : Int32} {h : gz_H} {Q : Int32 → gz_H → Prop} (hf : gz_g (fX9_at a0 x1 x2 h) Q) : gz_Cl G mX9_at (d + 3) 0 0 [.ref a0, .int x1, .int x2] h (gz_qi Q) := gz_cl_of (lo := [.ref a0, .int x1, .int x2, .retAddr 0]) (by decide) rfl rfl (Nat.le_of_ble_eq_true rfl) (sX9_at_0 a0 x1 x2 h hf)
theorem dX9_tear_0 : decode cX9_tear 0 = .ok (.iload_n 1, 1) := by decide +kernel
theorem dX9_tear_1 : decode cX9_tear 1 = .ok (.invokestatic 80, 3) := by decide +kernel
theorem dX9_tear_4 : decode cX9_tear 4 = .ok (.ifCond .ne 5, 3) := by decide +kernel
theorem dX9_tear_7 : decode cX9_tear 7 = .ok (.iconst (-1), 1) := by decide +kernel
theorem dX9_tear_8 : decode cX9_tear 8 = .ok (.ireturn, 1) := by decide +kernel
theorem dX9_tear_9 : decode cX9_tear 9 = .ok (.aload_n 0, 1) := by decide +kernel
theorem dX9_tear_10 : decode cX9_tear 10 = .ok (.getfield 25, 3) := by decide +kernel
theorem dX9_tear_13 : decode cX9_tear 13 = .ok (.iload_n 1, 1) := by decide +kernel
theorem dX9_tear_14 : decode cX9_tear 14 = .ok (.iaload, 1) := by decide +kernel
theorem dX9_tear_15 : decode cX9_tear 15 = .ok (.ifCond .ge 9, 3) := by decide +kernel
theorem dX9_tear_18 : decode cX9_tear 18 = .ok (.aload_n 0, 1) := by decide +kernel
theorem dX9_tear_19 : decode cX9_tear 19 = .ok (.iconst 1, 1) := by decide +kernel
theorem dX9_tear_20 : decode cX9_tear 20 = .ok (.invokevirtual 84, 3) := by decide +kernel
theorem dX9_tear_23 : decode cX9_tear 23 = .ok (.ireturn, 1) := by decide +kernel
theorem dX9_tear_24 : decode cX9_tear 24 = .ok (.aload_n 0, 1) := by decide +kernel
theorem dX9_tear_25 : decode cX9_tear 25 = .ok (.getfield 25, 3) := by decide +kernel
theorem dX9_tear_28 : decode cX9_tear 28 = .ok (.iload_n 1, 1) := by decide +kernel
theorem dX9_tear_29 : decode cX9_tear 29 = .ok (.iconst (-1), 1) := by decide +kernel
theorem dX9_tear_30 : decode cX9_tear 30 = .ok (.iastore, 1) := by decide +kernel
theorem dX9_tear_31 : decode cX9_tear 31 = .ok (.iconst 1, 1) := by decide +kernel
theorem dX9_tear_32 : decode cX9_tear 32 = .ok (.ireturn, 1) := by decide +kernel
def fX9_tear_0  (a0 : Nat) (x1 : Int32) (h : gz_H) : Option (Int32 × gz_H) :=
    gz_b2 (fX9_isRow x1 h) fun y_2 h_1 =>
    if y_2 = 0 then (
     some ((-1 : Int32), h_1)
    ) else (
     gz_ck (gz_sh h_1 a0 9 29) <|
     gz_br (h_1.2.2.2 a0 7) fun r_5 =>
     gz_ck (gz_inb h_1 r_5 10 x1) <|
     if 0 ≤ (h_1.2.1 r_5 x1.toNatClampNeg) then (
      gz_lt (uI h_1 r_5 x1.toNatClampNeg (-1 : Int32)) fun h_8 =>
      some ((1 : Int32), h_8)
     ) else (
      gz_b2 (fX9_find a0 (1 : Int32) h_1) fun y_10 h_9 =>
      some (y_10, h_9)
     )
    )
set_option maxRecDepth 100000 in
set_option maxHeartbeats 1000000 in
theorem sX9_tear_0 {G : gz_G} {d l0 s0 : Nat} {Q : Int32 → gz_H → Prop} (a0 : Nat) (x1 : Int32) (h : gz_H) (hf : gz_g (fX9_tear_0  a0 x1 h) Q) : gz_Ok G mX9_tear (d + 2, l0, s0, 0, 0) 0 [.ref a0, .int x1] [] h (gz_qi Q) := by
  unfold fX9_tear_0 at hf
  refine gz_iload_n (pc := 0) dX9_tear_0 rfl rfl ?_
  refine gz_cSI (av := [.int x1]) (st := []) (pc := 1) dX9_tear_1 kl_RX9_80 rfl rfl (Nat.le_of_ble_eq_true rfl) (by show d + 0 + 1 + 1 ≤ d + 2; omega) (sX9_isRow (d := d + 0) (gz_gc hf)) (fun y_2 h_1 hf => ?_)
  refine gz_if_ne (tgt := 9) (pc := 4) dX9_tear_4 rfl (fun c_3 => ?_) (fun c_3 => ?_)
  · have hf := gz_gF hf c_3
    refine gz_aload_n (pc := 9) dX9_tear_9 rfl rfl ?_
    refine gz_gk hf (fun c_4 hf => ?_)
    refine gz_gb hf (fun r_5 er_5 hf => ?_)
    refine gz_getR (pc := 10) dX9_tear_10 fl_RX9_25 rfl (gz_shs c_4) er_5 ?_
    refine gz_iload_n (pc := 13) dX9_tear_13 rfl rfl ?_
    refine gz_gk hf (fun c_6 hf => ?_)
    refine gz_iald (pc := 14) dX9_tear_14 c_6 ?_
    refine gz_if_ge (tgt := 24) (pc := 15) dX9_tear_15 rfl (fun c_7 => ?_) (fun c_7 => ?_)
    · have hf := gz_gT hf c_7
      refine gz_aload_n (pc := 24) dX9_tear_24 rfl rfl ?_
      refine gz_getR (pc := 25) dX9_tear_25 fl_RX9_25 rfl (gz_shs c_4) er_5 ?_
      refine gz_iload_n (pc := 28) dX9_tear_28 rfl rfl ?_
      refine gz_iconst (v := (-1 : Int32)) (pc := 29) dX9_tear_29 rfl ?_
      refine gz_iast (pc := 30) dX9_tear_30 c_6 ?_
      refine gz_nmH (fun h_8 eh_8 => ?_)
      have hf := gz_gl eh_8 hf
      refine gz_iconst (v := (1 : Int32)) (pc := 31) dX9_tear_31 rfl ?_
      exact gz_irt (pc := 32) dX9_tear_32 rfl rfl hf
    · have hf := gz_gF hf c_7
      refine gz_aload_n (pc := 18) dX9_tear_18 rfl rfl ?_
      refine gz_iconst (v := (1 : Int32)) (pc := 19) dX9_tear_19 rfl ?_
      refine gz_cVI (av := [.int (1 : Int32)]) (st := []) (pc := 20) dX9_tear_20 kl_RX9_84 rfl (gz_shs c_4) rfl rfl (Nat.le_of_ble_eq_true rfl) (by show d + 1 + 0 + 1 ≤ d + 2; omega) (sX9_find (d := d + 1) (gz_gc hf)) (fun y_10 h_9 hf => ?_)
      exact gz_irt (pc := 23) dX9_tear_23 rfl rfl hf
  · have hf := gz_gT hf c_3
    refine gz_iconst (v := (-1 : Int32)) (pc := 7) dX9_tear_7 rfl ?_
    exact gz_irt (pc := 8) dX9_tear_8 rfl rfl hf
def fX9_tear (a0 : Nat) (x1 : Int32) (h : gz_H) : Option (Int32 × gz_H) := fX9_tear_0 a0 x1 h
theorem sX9_tear {G : gz_G} {d : Nat} {a0 : Nat} {x1 : Int32} {h : gz_H} {Q : Int32 → gz_H → Prop} (hf : gz_g (fX9_tear a0 x1 h) Q) : gz_Cl G mX9_tear (d + 2) 0 0 [.ref a0, .int x1] h (gz_qi Q) := gz_cl_of (lo := [.ref a0, .int x1]) (by decide) rfl rfl (Nat.le_of_ble_eq_true rfl) (sX9_tear_0 a0 x1 h hf)
theorem dX9_isSpan_0 : decode cX9_isSpan 0 = .ok (.iload_n 2, 1) := by decide +kernel
theorem dX9_isSpan_1 : decode cX9_isSpan 1 = .ok (.ifCond .lt 23, 3) := by decide +kernel
theorem dX9_isSpan_4 : decode cX9_isSpan 4 = .ok (.iload_n 2, 1) := by decide +kernel
theorem dX9_isSpan_5 : decode cX9_isSpan 5 = .ok (.i2l, 1) := by decide +kernel
theorem dX9_isSpan_6 : decode cX9_isSpan 6 = .ok (.iload_n 3, 1) := by decide +kernel
theorem dX9_isSpan_7 : decode cX9_isSpan 7 = .ok (.i2l, 1) := by decide +kernel
theorem dX9_isSpan_8 : decode cX9_isSpan 8 = .ok (.ladd, 1) := by decide +kernel
theorem dX9_isSpan_9 : decode cX9_isSpan 9 = .ok (.aload_n 0, 1) := by decide +kernel
theorem dX9_isSpan_10 : decode cX9_isSpan 10 = .ok (.getfield 25, 3) := by decide +kernel
theorem dX9_isSpan_13 : decode cX9_isSpan 13 = .ok (.iload_n 1, 1) := by decide +kernel
theorem dX9_isSpan_14 : decode cX9_isSpan 14 = .ok (.iaload, 1) := by decide +kernel
theorem dX9_isSpan_15 : decode cX9_isSpan 15 = .ok (.i2l, 1) := by decide +kernel
theorem dX9_isSpan_16 : decode cX9_isSpan 16 = .ok (.lcmp, 1) := by decide +kernel
theorem dX9_isSpan_17 : decode cX9_isSpan 17 = .ok (.ifCond .gt 7, 3) := by decide +kernel
theorem dX9_isSpan_20 : decode cX9_isSpan 20 = .ok (.iconst 1, 1) := by decide +kernel
theorem dX9_isSpan_21 : decode cX9_isSpan 21 = .ok (.goto 4, 3) := by decide +kernel
theorem dX9_isSpan_24 : decode cX9_isSpan 24 = .ok (.iconst 0, 1) := by decide +kernel
theorem dX9_isSpan_25 : decode cX9_isSpan 25 = .ok (.ireturn, 1) := by decide +kernel
def fX9_isSpan_0  (a0 : Nat) (x1 : Int32) (x2 : Int32) (x3 : Int32) (h : gz_H) : Option (Int32 × gz_H) :=
    if x2 < 0 then (
     some ((0 : Int32), h)
    ) else (
     gz_ck (gz_sh h a0 9 29) <|
     gz_br (h.2.2.2 a0 7) fun r_3 =>
     gz_ck (gz_inb h r_3 10 x1) <|
     if 0 < (lg_cmp (x2.toInt64 + x3.toInt64) ((h.2.1 r_3 x1.toNatClampNeg).toInt64)) then (
      some ((0 : Int32), h)
     ) else (
      some ((1 : Int32), h)
     )
    )
set_option maxRecDepth 100000 in
set_option maxHeartbeats 1000000 in
theorem sX9_isSpan_0 {G : gz_G} {d l0 s0 : Nat} {Q : Int32 → gz_H → Prop} (a0 : Nat) (x1 : Int32) (x2 : Int32) (x3 : Int32) (h : gz_H) (hf : gz_g (fX9_isSpan_0  a0 x1 x2 x3 h) Q) : gz_Ok G mX9_isSpan (d + 0, l0, s0, 0, 0) 0 [.ref a0, .int x1, .int x2, .int x3] [] h (gz_qi Q) := by
  unfold fX9_isSpan_0 at hf
  refine gz_iload_n (pc := 0) dX9_isSpan_0 rfl rfl ?_
  refine gz_if_lt (tgt := 24) (pc := 1) dX9_isSpan_1 rfl (fun c_1 => ?_) (fun c_1 => ?_)
  · have hf := gz_gT hf c_1
    refine gz_iconst (v := (0 : Int32)) (pc := 24) dX9_isSpan_24 rfl ?_
    exact gz_irt (pc := 25) dX9_isSpan_25 rfl rfl hf
  · have hf := gz_gF hf c_1
    refine gz_iload_n (pc := 4) dX9_isSpan_4 rfl rfl ?_
    refine gz_i2l (pc := 5) dX9_isSpan_5 ?_
    refine gz_iload_n (pc := 6) dX9_isSpan_6 rfl rfl ?_
    refine gz_i2l (pc := 7) dX9_isSpan_7 ?_
    refine gz_ladd (pc := 8) dX9_isSpan_8 ?_
    refine gz_aload_n (pc := 9) dX9_isSpan_9 rfl rfl ?_
    refine gz_gk hf (fun c_2 hf => ?_)
    refine gz_gb hf (fun r_3 er_3 hf => ?_)
    refine gz_getR (pc := 10) dX9_isSpan_10 fl_RX9_25 rfl (gz_shs c_2) er_3 ?_
    refine gz_iload_n (pc := 13) dX9_isSpan_13 rfl rfl ?_
    refine gz_gk hf (fun c_4 hf => ?_)
    refine gz_iald (pc := 14) dX9_isSpan_14 c_4 ?_
    refine gz_i2l (pc := 15) dX9_isSpan_15 ?_
    refine gz_lcmp (pc := 16) dX9_isSpan_16 ?_
    refine gz_if_gt (tgt := 24) (pc := 17) dX9_isSpan_17 rfl (fun c_5 => ?_) (fun c_5 => ?_)
    · have hf := gz_gT hf c_5
      refine gz_iconst (v := (0 : Int32)) (pc := 24) dX9_isSpan_24 rfl ?_
      exact gz_irt (pc := 25) dX9_isSpan_25 rfl rfl hf
    · have hf := gz_gF hf c_5
      refine gz_iconst (v := (1 : Int32)) (pc := 20) dX9_isSpan_20 rfl ?_
      refine gz_goto (tgt := 25) (pc := 21) dX9_isSpan_21 rfl ?_
      exact gz_irt (pc := 25) dX9_isSpan_25 rfl rfl hf
def fX9_isSpan (a0 : Nat) (x1 : Int32) (x2 : Int32) (x3 : Int32) (h : gz_H) : Option (Int32 × gz_H) := fX9_isSpan_0 a0 x1 x2 x3 h
theorem sX9_isSpan {G : gz_G} {d : Nat} {a0 : Nat} {x1 : Int32} {x2 : Int32} {x3 : Int32} {h : gz_H} {Q : Int32 → gz_H → Prop} (hf : gz_g (fX9_isSpan a0 x1 x2 x3 h) Q) : gz_Cl G mX9_isSpan (d + 0) 0 0 [.ref a0, .int x1, .int x2, .int x3] h (gz_qi Q) := gz_cl_of (lo := [.ref a0, .int x1, .int x2, .int x3]) (by decide) rfl rfl (Nat.le_of_ble_eq_true rfl) (sX9_isSpan_0 a0 x1 x2 x3 h hf)
theorem dX9_copy_0 : decode cX9_copy 0 = .ok (.iload_n 1, 1) := by decide +kernel
theorem dX9_copy_1 : decode cX9_copy 1 = .ok (.invokestatic 80, 3) := by decide +kernel
theorem dX9_copy_4 : decode cX9_copy 4 = .ok (.ifCond .eq 10, 3) := by decide +kernel
theorem dX9_copy_7 : decode cX9_copy 7 = .ok (.iload_n 3, 1) := by decide +kernel
theorem dX9_copy_8 : decode cX9_copy 8 = .ok (.invokestatic 80, 3) := by decide +kernel
theorem dX9_copy_11 : decode cX9_copy 11 = .ok (.ifCond .ne 5, 3) := by decide +kernel
theorem dX9_copy_14 : decode cX9_copy 14 = .ok (.iconst (-1), 1) := by decide +kernel
theorem dX9_copy_15 : decode cX9_copy 15 = .ok (.ireturn, 1) := by decide +kernel
theorem dX9_copy_16 : decode cX9_copy 16 = .ok (.iload 5, 2) := by decide +kernel
theorem dX9_copy_18 : decode cX9_copy 18 = .ok (.ifCond .ge 9, 3) := by decide +kernel
theorem dX9_copy_21 : decode cX9_copy 21 = .ok (.aload_n 0, 1) := by decide +kernel
theorem dX9_copy_22 : decode cX9_copy 22 = .ok (.iconst 5, 1) := by decide +kernel
theorem dX9_copy_23 : decode cX9_copy 23 = .ok (.invokevirtual 84, 3) := by decide +kernel
theorem dX9_copy_26 : decode cX9_copy 26 = .ok (.ireturn, 1) := by decide +kernel
theorem dX9_copy_27 : decode cX9_copy 27 = .ok (.aload_n 0, 1) := by decide +kernel
theorem dX9_copy_28 : decode cX9_copy 28 = .ok (.getfield 25, 3) := by decide +kernel
theorem dX9_copy_31 : decode cX9_copy 31 = .ok (.iload_n 1, 1) := by decide +kernel
theorem dX9_copy_32 : decode cX9_copy 32 = .ok (.iaload, 1) := by decide +kernel
theorem dX9_copy_33 : decode cX9_copy 33 = .ok (.ifCond .lt 12, 3) := by decide +kernel
theorem dX9_copy_36 : decode cX9_copy 36 = .ok (.aload_n 0, 1) := by decide +kernel
theorem dX9_copy_37 : decode cX9_copy 37 = .ok (.getfield 25, 3) := by decide +kernel
theorem dX9_copy_40 : decode cX9_copy 40 = .ok (.iload_n 3, 1) := by decide +kernel
theorem dX9_copy_41 : decode cX9_copy 41 = .ok (.iaload, 1) := by decide +kernel
theorem dX9_copy_42 : decode cX9_copy 42 = .ok (.ifCond .ge 9, 3) := by decide +kernel
theorem dX9_copy_45 : decode cX9_copy 45 = .ok (.aload_n 0, 1) := by decide +kernel
theorem dX9_copy_46 : decode cX9_copy 46 = .ok (.iconst 1, 1) := by decide +kernel
theorem dX9_copy_47 : decode cX9_copy 47 = .ok (.invokevirtual 84, 3) := by decide +kernel
theorem dX9_copy_50 : decode cX9_copy 50 = .ok (.ireturn, 1) := by decide +kernel
theorem dX9_copy_51 : decode cX9_copy 51 = .ok (.aload_n 0, 1) := by decide +kernel
theorem dX9_copy_52 : decode cX9_copy 52 = .ok (.iload_n 1, 1) := by decide +kernel
theorem dX9_copy_53 : decode cX9_copy 53 = .ok (.iload_n 2, 1) := by decide +kernel
theorem dX9_copy_54 : decode cX9_copy 54 = .ok (.iload 5, 2) := by decide +kernel
theorem dX9_copy_56 : decode cX9_copy 56 = .ok (.invokevirtual 99, 3) := by decide +kernel
theorem dX9_copy_59 : decode cX9_copy 59 = .ok (.ifCond .eq 15, 3) := by decide +kernel
theorem dX9_copy_62 : decode cX9_copy 62 = .ok (.aload_n 0, 1) := by decide +kernel
theorem dX9_copy_63 : decode cX9_copy 63 = .ok (.iload_n 3, 1) := by decide +kernel
theorem dX9_copy_64 : decode cX9_copy 64 = .ok (.iload 4, 2) := by decide +kernel
theorem dX9_copy_66 : decode cX9_copy 66 = .ok (.iload 5, 2) := by decide +kernel
theorem dX9_copy_68 : decode cX9_copy 68 = .ok (.invokevirtual 99, 3) := by decide +kernel
theorem dX9_copy_71 : decode cX9_copy 71 = .ok (.ifCond .ne 9, 3) := by decide +kernel
theorem dX9_copy_74 : decode cX9_copy 74 = .ok (.aload_n 0, 1) := by decide +kernel
theorem dX9_copy_75 : decode cX9_copy 75 = .ok (.iconst 2, 1) := by decide +kernel
theorem dX9_copy_76 : decode cX9_copy 76 = .ok (.invokevirtual 84, 3) := by decide +kernel
theorem dX9_copy_79 : decode cX9_copy 79 = .ok (.ireturn, 1) := by decide +kernel
theorem dX9_copy_80 : decode cX9_copy 80 = .ok (.iload_n 2, 1) := by decide +kernel
theorem dX9_copy_81 : decode cX9_copy 81 = .ok (.iload 4, 2) := by decide +kernel
theorem dX9_copy_83 : decode cX9_copy 83 = .ok (.if_icmp .ge 7, 3) := by decide +kernel
theorem dX9_copy_86 : decode cX9_copy 86 = .ok (.iconst 1, 1) := by decide +kernel
theorem dX9_copy_87 : decode cX9_copy 87 = .ok (.goto 4, 3) := by decide +kernel
theorem dX9_copy_90 : decode cX9_copy 90 = .ok (.iconst 0, 1) := by decide +kernel
theorem dX9_copy_91 : decode cX9_copy 91 = .ok (.istore 6, 2) := by decide +kernel
theorem dX9_copy_93 : decode cX9_copy 93 = .ok (.iconst 0, 1) := by decide +kernel
theorem dX9_copy_94 : decode cX9_copy 94 = .ok (.istore 7, 2) := by decide +kernel
theorem dX9_copy_96 : decode cX9_copy 96 = .ok (.iload 7, 2) := by decide +kernel
theorem dX9_copy_98 : decode cX9_copy 98 = .ok (.iload 5, 2) := by decide +kernel
theorem dX9_copy_100 : decode cX9_copy 100 = .ok (.if_icmp .ge 57, 3) := by decide +kernel
theorem dX9_copy_103 : decode cX9_copy 103 = .ok (.iload 6, 2) := by decide +kernel
theorem dX9_copy_105 : decode cX9_copy 105 = .ok (.ifCond .eq 13, 3) := by decide +kernel
theorem dX9_copy_108 : decode cX9_copy 108 = .ok (.iload 5, 2) := by decide +kernel
theorem dX9_copy_110 : decode cX9_copy 110 = .ok (.iconst 1, 1) := by decide +kernel
theorem dX9_copy_111 : decode cX9_copy 111 = .ok (.isub, 1) := by decide +kernel
theorem dX9_copy_112 : decode cX9_copy 112 = .ok (.iload 7, 2) := by decide +kernel
theorem dX9_copy_114 : decode cX9_copy 114 = .ok (.isub, 1) := by decide +kernel
theorem dX9_copy_115 : decode cX9_copy 115 = .ok (.goto 5, 3) := by decide +kernel
theorem dX9_copy_118 : decode cX9_copy 118 = .ok (.iload 7, 2) := by decide +kernel
theorem dX9_copy_120 : decode cX9_copy 120 = .ok (.istore 8, 2) := by decide +kernel
theorem dX9_copy_122 : decode cX9_copy 122 = .ok (.aload_n 0, 1) := by decide +kernel
theorem dX9_copy_123 : decode cX9_copy 123 = .ok (.getfield 28, 3) := by decide +kernel
theorem dX9_copy_126 : decode cX9_copy 126 = .ok (.bipush 40, 2) := by decide +kernel
theorem dX9_copy_128 : decode cX9_copy 128 = .ok (.iload_n 3, 1) := by decide +kernel
theorem dX9_copy_129 : decode cX9_copy 129 = .ok (.imul, 1) := by decide +kernel
theorem dX9_copy_130 : decode cX9_copy 130 = .ok (.iload 4, 2) := by decide +kernel
theorem dX9_copy_132 : decode cX9_copy 132 = .ok (.iadd, 1) := by decide +kernel
theorem dX9_copy_133 : decode cX9_copy 133 = .ok (.iload 8, 2) := by decide +kernel
theorem dX9_copy_135 : decode cX9_copy 135 = .ok (.iadd, 1) := by decide +kernel
theorem dX9_copy_136 : decode cX9_copy 136 = .ok (.aload_n 0, 1) := by decide +kernel
theorem dX9_copy_137 : decode cX9_copy 137 = .ok (.getfield 28, 3) := by decide +kernel
theorem dX9_copy_140 : decode cX9_copy 140 = .ok (.bipush 40, 2) := by decide +kernel
theorem dX9_copy_142 : decode cX9_copy 142 = .ok (.iload_n 1, 1) := by decide +kernel
theorem dX9_copy_143 : decode cX9_copy 143 = .ok (.imul, 1) := by decide +kernel
theorem dX9_copy_144 : decode cX9_copy 144 = .ok (.iload_n 2, 1) := by decide +kernel
theorem dX9_copy_145 : decode cX9_copy 145 = .ok (.iadd, 1) := by decide +kernel
theorem dX9_copy_146 : decode cX9_copy 146 = .ok (.iload 8, 2) := by decide +kernel
theorem dX9_copy_148 : decode cX9_copy 148 = .ok (.iadd, 1) := by decide +kernel
theorem dX9_copy_149 : decode cX9_copy 149 = .ok (.iaload, 1) := by decide +kernel
theorem dX9_copy_150 : decode cX9_copy 150 = .ok (.iastore, 1) := by decide +kernel
theorem dX9_copy_151 : decode cX9_copy 151 = .ok (.iinc 7 1, 3) := by decide +kernel
theorem dX9_copy_154 : decode cX9_copy 154 = .ok (.goto (-58), 3) := by decide +kernel
theorem dX9_copy_157 : decode cX9_copy 157 = .ok (.iconst 1, 1) := by decide +kernel
theorem dX9_copy_158 : decode cX9_copy 158 = .ok (.ireturn, 1) := by decide +kernel
def fX9_copy_45  (a0 : Nat) (h : gz_H) : Option (Int32 × gz_H) :=
    gz_ck (gz_sh h a0 9 29) <|
    gz_b2 (fX9_find a0 (1 : Int32) h) fun y_2 h_1 =>
    some (y_2, h_1)
set_option maxRecDepth 100000 in
set_option maxHeartbeats 1000000 in
theorem sX9_copy_45 {G : gz_G} {d l0 s0 : Nat} {Q : Int32 → gz_H → Prop} (a0 : Nat) (h : gz_H) (hf : gz_g (fX9_copy_45  a0 h) Q) : gz_Ok G mX9_copy (d + 2, l0, s0, 0, 0) 45 [.ref a0, .retAddr 0, .retAddr 0, .retAddr 0, .retAddr 0, .retAddr 0, .retAddr 0, .retAddr 0, .retAddr 0] [] h (gz_qi Q) := by
  unfold fX9_copy_45 at hf
  refine gz_aload_n (pc := 45) dX9_copy_45 rfl rfl ?_
  refine gz_iconst (v := (1 : Int32)) (pc := 46) dX9_copy_46 rfl ?_
  refine gz_gk hf (fun c_3 hf => ?_)
  refine gz_cVI (av := [.int (1 : Int32)]) (st := []) (pc := 47) dX9_copy_47 kl_RX9_84 rfl (gz_shs c_3) rfl rfl (Nat.le_of_ble_eq_true rfl) (by show d + 1 + 0 + 1 ≤ d + 2; omega) (sX9_find (d := d + 1) (gz_gc hf)) (fun y_2 h_1 hf => ?_)
  exact gz_irt (pc := 50) dX9_copy_50 rfl rfl hf
def fX9_copy_74  (a0 : Nat) (h : gz_H) : Option (Int32 × gz_H) :=
    gz_ck (gz_sh h a0 9 29) <|
    gz_b2 (fX9_find a0 (2 : Int32) h) fun y_2 h_1 =>
    some (y_2, h_1)
set_option maxRecDepth 100000 in
set_option maxHeartbeats 1000000 in
theorem sX9_copy_74 {G : gz_G} {d l0 s0 : Nat} {Q : Int32 → gz_H → Prop} (a0 : Nat) (h : gz_H) (hf : gz_g (fX9_copy_74  a0 h) Q) : gz_Ok G mX9_copy (d + 2, l0, s0, 0, 0) 74 [.ref a0, .retAddr 0, .retAddr 0, .retAddr 0, .retAddr 0, .retAddr 0, .retAddr 0, .retAddr 0, .retAddr 0] [] h (gz_qi Q) := by
  unfold fX9_copy_74 at hf
  refine gz_aload_n (pc := 74) dX9_copy_74 rfl rfl ?_
  refine gz_iconst (v := (2 : Int32)) (pc := 75) dX9_copy_75 rfl ?_
  refine gz_gk hf (fun c_3 hf => ?_)
  refine gz_cVI (av := [.int (2 : Int32)]) (st := []) (pc := 76) dX9_copy_76 kl_RX9_84 rfl (gz_shs c_3) rfl rfl (Nat.le_of_ble_eq_true rfl) (by show d + 1 + 0 + 1 ≤ d + 2; omega) (sX9_find (d := d + 1) (gz_gc hf)) (fun y_2 h_1 hf => ?_)
  exact gz_irt (pc := 79) dX9_copy_79 rfl rfl hf
def fX9_copy_120 (k96 : Nat → Int32 → Int32 → Int32 → Int32 → Int32 → Int32 → Int32 → gz_H → Option (Int32 × gz_H)) (a0 : Nat) (x1 : Int32) (x2 : Int32) (x3 : Int32) (x4 : Int32) (x5 : Int32) (x6 : Int32) (x7 : Int32) (w0 : Int32) (h : gz_H) : Option (Int32 × gz_H) :=
    gz_ck (gz_sh h a0 9 29) <|
    gz_br (h.2.2.2 a0 8) fun r_2 =>
    gz_ck (gz_inb h r_2 10 ((((40 : Int32) * x1) + x2) + w0)) <|
    gz_ck (gz_inb h r_2 10 ((((40 : Int32) * x3) + x4) + w0)) <|
    gz_lt (uI h r_2 ((((40 : Int32) * x3) + x4) + w0).toNatClampNeg (h.2.1 r_2 ((((40 : Int32) * x1) + x2) + w0).toNatClampNeg)) fun h_5 =>
    k96 a0 x1 x2 x3 x4 x5 x6 (x7 + 1) h_5
set_option maxRecDepth 100000 in
set_option maxHeartbeats 1000000 in
theorem sX9_copy_120 {G : gz_G} {d l0 s0 : Nat} {Q : Int32 → gz_H → Prop} {k96 : Nat → Int32 → Int32 → Int32 → Int32 → Int32 → Int32 → Int32 → gz_H → Option (Int32 × gz_H)} (hk96 : ∀ (a0 : Nat) (x1 : Int32) (x2 : Int32) (x3 : Int32) (x4 : Int32) (x5 : Int32) (x6 : Int32) (x7 : Int32) (h : gz_H), gz_g (k96 a0 x1 x2 x3 x4 x5 x6 x7 h) Q → gz_Ok G mX9_copy (d + 2, l0, s0, 0, 0) 96 [.ref a0, .int x1, .int x2, .int x3, .int x4, .int x5, .int x6, .int x7, .retAddr 0] [] h (gz_qi Q)) (a0 : Nat) (x1 : Int32) (x2 : Int32) (x3 : Int32) (x4 : Int32) (x5 : Int32) (x6 : Int32) (x7 : Int32) (w0 : Int32) (h : gz_H) (hf : gz_g (fX9_copy_120 k96 a0 x1 x2 x3 x4 x5 x6 x7 w0 h) Q) : gz_Ok G mX9_copy (d + 2, l0, s0, 0, 0) 120 [.ref a0, .int x1, .int x2, .int x3, .int x4, .int x5, .int x6, .int x7, .retAddr 0] [.int w0] h (gz_qi Q) := by
  unfold fX9_copy_120 at hf
  refine gz_istore (lv := [.ref a0, .int x1, .int x2, .int x3, .int x4, .int x5, .int x6, .int x7, .int w0]) (pc := 120) dX9_copy_120 (by decide) rfl ?_
  refine gz_aload_n (pc := 122) dX9_copy_122 rfl rfl ?_
  refine gz_gk hf (fun c_1 hf => ?_)
  refine gz_gb hf (fun r_2 er_2 hf => ?_)
  refine gz_getR (pc := 123) dX9_copy_123 fl_RX9_28 rfl (gz_shs c_1) er_2 ?_
  refine gz_bipush (v := (40 : Int32)) (pc := 126) dX9_copy_126 rfl ?_
  refine gz_iload_n (pc := 128) dX9_copy_128 rfl rfl ?_
  refine gz_imul (pc := 129) dX9_copy_129 ?_
  refine gz_iload (pc := 130) dX9_copy_130 rfl ?_
  refine gz_iadd (pc := 132) dX9_copy_132 ?_
  refine gz_iload (pc := 133) dX9_copy_133 rfl ?_
  refine gz_iadd (pc := 135) dX9_copy_135 ?_
  refine gz_aload_n (pc := 136) dX9_copy_136 rfl rfl ?_
  refine gz_getR (pc := 137) dX9_copy_137 fl_RX9_28 rfl (gz_shs c_1) er_2 ?_
  refine gz_bipush (v := (40 : Int32)) (pc := 140) dX9_copy_140 rfl ?_
  refine gz_iload_n (pc := 142) dX9_copy_142 rfl rfl ?_
  refine gz_imul (pc := 143) dX9_copy_143 ?_
  refine gz_iload_n (pc := 144) dX9_copy_144 rfl rfl ?_
  refine gz_iadd (pc := 145) dX9_copy_145 ?_
  refine gz_iload (pc := 146) dX9_copy_146 rfl ?_
  refine gz_iadd (pc := 148) dX9_copy_148 ?_
  refine gz_gk hf (fun c_3 hf => ?_)
  refine gz_iald (pc := 149) dX9_copy_149 c_3 ?_
  refine gz_gk hf (fun c_4 hf => ?_)
  refine gz_iast (pc := 150) dX9_copy_150 c_4 ?_
  refine gz_nmH (fun h_5 eh_5 => ?_)
  have hf := gz_gl eh_5 hf
  refine gz_iinc (v := x7 + 1) (lv := [.ref a0, .int x1, .int x2, .int x3, .int x4, .int x5, .int x6, .int (x7 + 1), .int w0]) (pc := 151) dX9_copy_151 rfl rfl (by decide) rfl ?_
  refine gz_goto (tgt := 96) (pc := 154) dX9_copy_154 rfl ?_
  refine gz_fg (lv := [.ref a0, .int x1, .int x2, .int x3, .int x4, .int x5, .int x6, .int (x7 + 1), .retAddr 0]) ⟨Or.inr rfl, ⟨Or.inr rfl, ⟨Or.inr rfl, ⟨Or.inr rfl, ⟨Or.inr rfl, ⟨Or.inr rfl, ⟨Or.inr rfl, ⟨Or.inr rfl, ⟨Or.inl rfl, trivial⟩⟩⟩⟩⟩⟩⟩⟩⟩ ?_
  exact hk96 a0 x1 x2 x3 x4 x5 x6 (x7 + 1) h_5 hf
def fX9_copy_96  : Nat → Nat → Int32 → Int32 → Int32 → Int32 → Int32 → Int32 → Int32 → gz_H → Option (Int32 × gz_H)
  | 0, _, _, _, _, _, _, _, _, _ => none
  | n + 1, a0, x1, x2, x3, x4, x5, x6, x7, h =>
    if x5 ≤ x7 then (
     some ((1 : Int32), h)
    ) else (
     if x6 = 0 then (
      fX9_copy_120 (fun z0 z1 z2 z3 z4 z5 z6 z7 zh => fX9_copy_96 n z0 z1 z2 z3 z4 z5 z6 z7 zh) a0 x1 x2 x3 x4 x5 x6 x7 x7 h
     ) else (
      fX9_copy_120 (fun z0 z1 z2 z3 z4 z5 z6 z7 zh => fX9_copy_96 n z0 z1 z2 z3 z4 z5 z6 z7 zh) a0 x1 x2 x3 x4 x5 x6 x7 ((x5 - (1 : Int32)) - x7) h
     )
    )
set_option maxRecDepth 100000 in
set_option maxHeartbeats 1000000 in
theorem sX9_copy_96 {G : gz_G} {d l0 s0 : Nat} {Q : Int32 → gz_H → Prop} : ∀ (n : Nat) (a0 : Nat) (x1 : Int32) (x2 : Int32) (x3 : Int32) (x4 : Int32) (x5 : Int32) (x6 : Int32) (x7 : Int32) (h : gz_H), gz_g (fX9_copy_96  n a0 x1 x2 x3 x4 x5 x6 x7 h) Q → gz_Ok G mX9_copy (d + 2, l0, s0, 0, 0) 96 [.ref a0, .int x1, .int x2, .int x3, .int x4, .int x5, .int x6, .int x7, .retAddr 0] [] h (gz_qi Q) := by
  intro n
  induction n with
  | zero => intro a0 x1 x2 x3 x4 x5 x6 x7 h hf; exact False.elim hf
  | succ n ih =>
    intro a0 x1 x2 x3 x4 x5 x6 x7 h hf
    rw [fX9_copy_96] at hf
    refine gz_iload (pc := 96) dX9_copy_96 rfl ?_
    refine gz_iload (pc := 98) dX9_copy_98 rfl ?_
    refine gz_icmp_ge (tgt := 157) (pc := 100) dX9_copy_100 rfl (fun c_1 => ?_) (fun c_1 => ?_)
    · have hf := gz_gT hf c_1
      refine gz_iconst (v := (1 : Int32)) (pc := 157) dX9_copy_157 rfl ?_
      exact gz_irt (pc := 158) dX9_copy_158 rfl rfl hf
    · have hf := gz_gF hf c_1
      refine gz_iload (pc := 103) dX9_copy_103 rfl ?_
      refine gz_if_eq (tgt := 118) (pc := 105) dX9_copy_105 rfl (fun c_2 => ?_) (fun c_2 => ?_)
      · have hf := gz_gT hf c_2
        refine gz_iload (pc := 118) dX9_copy_118 rfl ?_
        exact sX9_copy_120 ih a0 x1 x2 x3 x4 x5 x6 x7 x7 h hf
      · have hf := gz_gF hf c_2
        refine gz_iload (pc := 108) dX9_copy_108 rfl ?_
        refine gz_iconst (v := (1 : Int32)) (pc := 110) dX9_copy_110 rfl ?_
        refine gz_isub (pc := 111) dX9_copy_111 ?_
        refine gz_iload (pc := 112) dX9_copy_112 rfl ?_
        refine gz_isub (pc := 114) dX9_copy_114 ?_
        refine gz_goto (tgt := 120) (pc := 115) dX9_copy_115 rfl ?_
        exact sX9_copy_120 ih a0 x1 x2 x3 x4 x5 x6 x7 ((x5 - (1 : Int32)) - x7) h hf
def fX9_copy_91  (a0 : Nat) (x1 : Int32) (x2 : Int32) (x3 : Int32) (x4 : Int32) (x5 : Int32) (w0 : Int32) (h : gz_H) : Option (Int32 × gz_H) :=
    fX9_copy_96 gz_fu a0 x1 x2 x3 x4 x5 w0 (0 : Int32) h
set_option maxRecDepth 100000 in
set_option maxHeartbeats 1000000 in
theorem sX9_copy_91 {G : gz_G} {d l0 s0 : Nat} {Q : Int32 → gz_H → Prop} (a0 : Nat) (x1 : Int32) (x2 : Int32) (x3 : Int32) (x4 : Int32) (x5 : Int32) (w0 : Int32) (h : gz_H) (hf : gz_g (fX9_copy_91  a0 x1 x2 x3 x4 x5 w0 h) Q) : gz_Ok G mX9_copy (d + 2, l0, s0, 0, 0) 91 [.ref a0, .int x1, .int x2, .int x3, .int x4, .int x5, .retAddr 0, .retAddr 0, .retAddr 0] [.int w0] h (gz_qi Q) := by
  unfold fX9_copy_91 at hf
  refine gz_istore (lv := [.ref a0, .int x1, .int x2, .int x3, .int x4, .int x5, .int w0, .retAddr 0, .retAddr 0]) (pc := 91) dX9_copy_91 (by decide) rfl ?_
  refine gz_iconst (v := (0 : Int32)) (pc := 93) dX9_copy_93 rfl ?_
  refine gz_istore (lv := [.ref a0, .int x1, .int x2, .int x3, .int x4, .int x5, .int w0, .int (0 : Int32), .retAddr 0]) (pc := 94) dX9_copy_94 (by decide) rfl ?_
  exact sX9_copy_96 gz_fu a0 x1 x2 x3 x4 x5 w0 (0 : Int32) h hf
def fX9_copy_0  (a0 : Nat) (x1 : Int32) (x2 : Int32) (x3 : Int32) (x4 : Int32) (x5 : Int32) (h : gz_H) : Option (Int32 × gz_H) :=
    gz_b2 (fX9_isRow x1 h) fun y_2 h_1 =>
    if y_2 = 0 then (
     some ((-1 : Int32), h_1)
    ) else (
     gz_b2 (fX9_isRow x3 h_1) fun y_5 h_4 =>
     if y_5 = 0 then (
      some ((-1 : Int32), h_4)
     ) else (
      if 0 ≤ x5 then (
       gz_ck (gz_sh h_4 a0 9 29) <|
       gz_br (h_4.2.2.2 a0 7) fun r_9 =>
       gz_ck (gz_inb h_4 r_9 10 x1) <|
       if (h_4.2.1 r_9 x1.toNatClampNeg) < 0 then (
        fX9_copy_45 a0 h_4
       ) else (
        gz_ck (gz_inb h_4 r_9 10 x3) <|
        if 0 ≤ (h_4.2.1 r_9 x3.toNatClampNeg) then (
         gz_b2 (fX9_isSpan a0 x1 x2 x5 h_4) fun y_15 h_14 =>
         if y_15 = 0 then (
          fX9_copy_74 a0 h_14
         ) else (
          gz_ck (gz_sh h_14 a0 9 29) <|
          gz_b2 (fX9_isSpan a0 x3 x4 x5 h_14) fun y_18 h_17 =>
          if y_18 = 0 then (
           fX9_copy_74 a0 h_17
          ) else (
           if x4 ≤ x2 then (
            fX9_copy_91 a0 x1 x2 x3 x4 x5 (0 : Int32) h_17
           ) else (
            fX9_copy_91 a0 x1 x2 x3 x4 x5 (1 : Int32) h_17
           )
          )
         )
        ) else (
         fX9_copy_45 a0 h_4
        )
       )
      ) else (
       gz_ck (gz_sh h_4 a0 9 29) <|
       gz_b2 (fX9_find a0 (5 : Int32) h_4) fun y_23 h_22 =>
       some (y_23, h_22)
      )
     )
    )
set_option maxRecDepth 100000 in
set_option maxHeartbeats 1000000 in
theorem sX9_copy_0 {G : gz_G} {d l0 s0 : Nat} {Q : Int32 → gz_H → Prop} (a0 : Nat) (x1 : Int32) (x2 : Int32) (x3 : Int32) (x4 : Int32) (x5 : Int32) (h : gz_H) (hf : gz_g (fX9_copy_0  a0 x1 x2 x3 x4 x5 h) Q) : gz_Ok G mX9_copy (d + 2, l0, s0, 0, 0) 0 [.ref a0, .int x1, .int x2, .int x3, .int x4, .int x5, .retAddr 0, .retAddr 0, .retAddr 0] [] h (gz_qi Q) := by
  unfold fX9_copy_0 at hf
  refine gz_iload_n (pc := 0) dX9_copy_0 rfl rfl ?_
  refine gz_cSI (av := [.int x1]) (st := []) (pc := 1) dX9_copy_1 kl_RX9_80 rfl rfl (Nat.le_of_ble_eq_true rfl) (by show d + 0 + 1 + 1 ≤ d + 2; omega) (sX9_isRow (d := d + 0) (gz_gc hf)) (fun y_2 h_1 hf => ?_)
  refine gz_if_eq (tgt := 14) (pc := 4) dX9_copy_4 rfl (fun c_3 => ?_) (fun c_3 => ?_)
  · have hf := gz_gT hf c_3
    refine gz_iconst (v := (-1 : Int32)) (pc := 14) dX9_copy_14 rfl ?_
    exact gz_irt (pc := 15) dX9_copy_15 rfl rfl hf
  · have hf := gz_gF hf c_3
    refine gz_iload_n (pc := 7) dX9_copy_7 rfl rfl ?_
    refine gz_cSI (av := [.int x3]) (st := []) (pc := 8) dX9_copy_8 kl_RX9_80 rfl rfl (Nat.le_of_ble_eq_true rfl) (by show d + 0 + 1 + 1 ≤ d + 2; omega) (sX9_isRow (d := d + 0) (gz_gc hf)) (fun y_5 h_4 hf => ?_)
    refine gz_if_ne (tgt := 16) (pc := 11) dX9_copy_11 rfl (fun c_6 => ?_) (fun c_6 => ?_)
    · have hf := gz_gF hf c_6
      refine gz_iload (pc := 16) dX9_copy_16 rfl ?_
      refine gz_if_ge (tgt := 27) (pc := 18) dX9_copy_18 rfl (fun c_7 => ?_) (fun c_7 => ?_)
      · have hf := gz_gT hf c_7
        refine gz_aload_n (pc := 27) dX9_copy_27 rfl rfl ?_
        refine gz_gk hf (fun c_8 hf => ?_)
        refine gz_gb hf (fun r_9 er_9 hf => ?_)
        refine gz_getR (pc := 28) dX9_copy_28 fl_RX9_25 rfl (gz_shs c_8) er_9 ?_
        refine gz_iload_n (pc := 31) dX9_copy_31 rfl rfl ?_
        refine gz_gk hf (fun c_10 hf => ?_)
        refine gz_iald (pc := 32) dX9_copy_32 c_10 ?_
        refine gz_if_lt (tgt := 45) (pc := 33) dX9_copy_33 rfl (fun c_11 => ?_) (fun c_11 => ?_)
        · have hf := gz_gT hf c_11
          refine gz_fg (lv := [.ref a0, .retAddr 0, .retAddr 0, .retAddr 0, .retAddr 0, .retAddr 0, .retAddr 0, .retAddr 0, .retAddr 0]) ⟨Or.inr rfl, ⟨Or.inl rfl, ⟨Or.inl rfl, ⟨Or.inl rfl, ⟨Or.inl rfl, ⟨Or.inl rfl, ⟨Or.inl rfl, ⟨Or.inl rfl, ⟨Or.inl rfl, trivial⟩⟩⟩⟩⟩⟩⟩⟩⟩ ?_
          exact sX9_copy_45 a0 h_4 hf
        · have hf := gz_gF hf c_11
          refine gz_aload_n (pc := 36) dX9_copy_36 rfl rfl ?_
          refine gz_getR (pc := 37) dX9_copy_37 fl_RX9_25 rfl (gz_shs c_8) er_9 ?_
          refine gz_iload_n (pc := 40) dX9_copy_40 rfl rfl ?_
          refine gz_gk hf (fun c_12 hf => ?_)
          refine gz_iald (pc := 41) dX9_copy_41 c_12 ?_
          refine gz_if_ge (tgt := 51) (pc := 42) dX9_copy_42 rfl (fun c_13 => ?_) (fun c_13 => ?_)
          · have hf := gz_gT hf c_13
            refine gz_aload_n (pc := 51) dX9_copy_51 rfl rfl ?_
            refine gz_iload_n (pc := 52) dX9_copy_52 rfl rfl ?_
            refine gz_iload_n (pc := 53) dX9_copy_53 rfl rfl ?_
            refine gz_iload (pc := 54) dX9_copy_54 rfl ?_
            refine gz_cVI (av := [.int x1, .int x2, .int x5]) (st := []) (pc := 56) dX9_copy_56 kl_RX9_99 rfl (gz_shs c_8) rfl rfl (Nat.le_of_ble_eq_true rfl) (by show d + 1 + 0 + 1 ≤ d + 2; omega) (sX9_isSpan (d := d + 1) (gz_gc hf)) (fun y_15 h_14 hf => ?_)
            refine gz_if_eq (tgt := 74) (pc := 59) dX9_copy_59 rfl (fun c_16 => ?_) (fun c_16 => ?_)
            · have hf := gz_gT hf c_16
              refine gz_fg (lv := [.ref a0, .retAddr 0, .retAddr 0, .retAddr 0, .retAddr 0, .retAddr 0, .retAddr 0, .retAddr 0, .retAddr 0]) ⟨Or.inr rfl, ⟨Or.inl rfl, ⟨Or.inl rfl, ⟨Or.inl rfl, ⟨Or.inl rfl, ⟨Or.inl rfl, ⟨Or.inl rfl, ⟨Or.inl rfl, ⟨Or.inl rfl, trivial⟩⟩⟩⟩⟩⟩⟩⟩⟩ ?_
              exact sX9_copy_74 a0 h_14 hf
            · have hf := gz_gF hf c_16
              refine gz_aload_n (pc := 62) dX9_copy_62 rfl rfl ?_
              refine gz_iload_n (pc := 63) dX9_copy_63 rfl rfl ?_
              refine gz_iload (pc := 64) dX9_copy_64 rfl ?_
              refine gz_iload (pc := 66) dX9_copy_66 rfl ?_
              refine gz_gk hf (fun c_19 hf => ?_)
              refine gz_cVI (av := [.int x3, .int x4, .int x5]) (st := []) (pc := 68) dX9_copy_68 kl_RX9_99 rfl (gz_shs c_19) rfl rfl (Nat.le_of_ble_eq_true rfl) (by show d + 1 + 0 + 1 ≤ d + 2; omega) (sX9_isSpan (d := d + 1) (gz_gc hf)) (fun y_18 h_17 hf => ?_)
              refine gz_if_ne (tgt := 80) (pc := 71) dX9_copy_71 rfl (fun c_20 => ?_) (fun c_20 => ?_)
              · have hf := gz_gF hf c_20
                refine gz_iload_n (pc := 80) dX9_copy_80 rfl rfl ?_
                refine gz_iload (pc := 81) dX9_copy_81 rfl ?_
                refine gz_icmp_ge (tgt := 90) (pc := 83) dX9_copy_83 rfl (fun c_21 => ?_) (fun c_21 => ?_)
                · have hf := gz_gT hf c_21
                  refine gz_iconst (v := (0 : Int32)) (pc := 90) dX9_copy_90 rfl ?_
                  exact sX9_copy_91 a0 x1 x2 x3 x4 x5 (0 : Int32) h_17 hf
                · have hf := gz_gF hf c_21
                  refine gz_iconst (v := (1 : Int32)) (pc := 86) dX9_copy_86 rfl ?_
                  refine gz_goto (tgt := 91) (pc := 87) dX9_copy_87 rfl ?_
                  exact sX9_copy_91 a0 x1 x2 x3 x4 x5 (1 : Int32) h_17 hf
              · have hf := gz_gT hf c_20
                refine gz_fg (lv := [.ref a0, .retAddr 0, .retAddr 0, .retAddr 0, .retAddr 0, .retAddr 0, .retAddr 0, .retAddr 0, .retAddr 0]) ⟨Or.inr rfl, ⟨Or.inl rfl, ⟨Or.inl rfl, ⟨Or.inl rfl, ⟨Or.inl rfl, ⟨Or.inl rfl, ⟨Or.inl rfl, ⟨Or.inl rfl, ⟨Or.inl rfl, trivial⟩⟩⟩⟩⟩⟩⟩⟩⟩ ?_
                exact sX9_copy_74 a0 h_17 hf
          · have hf := gz_gF hf c_13
            refine gz_fg (lv := [.ref a0, .retAddr 0, .retAddr 0, .retAddr 0, .retAddr 0, .retAddr 0, .retAddr 0, .retAddr 0, .retAddr 0]) ⟨Or.inr rfl, ⟨Or.inl rfl, ⟨Or.inl rfl, ⟨Or.inl rfl, ⟨Or.inl rfl, ⟨Or.inl rfl, ⟨Or.inl rfl, ⟨Or.inl rfl, ⟨Or.inl rfl, trivial⟩⟩⟩⟩⟩⟩⟩⟩⟩ ?_
            exact sX9_copy_45 a0 h_4 hf
      · have hf := gz_gF hf c_7
        refine gz_aload_n (pc := 21) dX9_copy_21 rfl rfl ?_
        refine gz_iconst (v := (5 : Int32)) (pc := 22) dX9_copy_22 rfl ?_
        refine gz_gk hf (fun c_24 hf => ?_)
        refine gz_cVI (av := [.int (5 : Int32)]) (st := []) (pc := 23) dX9_copy_23 kl_RX9_84 rfl (gz_shs c_24) rfl rfl (Nat.le_of_ble_eq_true rfl) (by show d + 1 + 0 + 1 ≤ d + 2; omega) (sX9_find (d := d + 1) (gz_gc hf)) (fun y_23 h_22 hf => ?_)
        exact gz_irt (pc := 26) dX9_copy_26 rfl rfl hf
    · have hf := gz_gT hf c_6
      refine gz_iconst (v := (-1 : Int32)) (pc := 14) dX9_copy_14 rfl ?_
      exact gz_irt (pc := 15) dX9_copy_15 rfl rfl hf
def fX9_copy (a0 : Nat) (x1 : Int32) (x2 : Int32) (x3 : Int32) (x4 : Int32) (x5 : Int32) (h : gz_H) : Option (Int32 × gz_H) := fX9_copy_0 a0 x1 x2 x3 x4 x5 h
theorem sX9_copy {G : gz_G} {d : Nat} {a0 : Nat} {x1 : Int32} {x2 : Int32} {x3 : Int32} {x4 : Int32} {x5 : Int32} {h : gz_H} {Q : Int32 → gz_H → Prop} (hf : gz_g (fX9_copy a0 x1 x2 x3 x4 x5 h) Q) : gz_Cl G mX9_copy (d + 2) 0 0 [.ref a0, .int x1, .int x2, .int x3, .int x4, .int x5] h (gz_qi Q) := gz_cl_of (lo := [.ref a0, .int x1, .int x2, .int x3, .int x4, .int x5, .retAddr 0, .retAddr 0, .retAddr 0]) (by decide) rfl rfl (Nat.le_of_ble_eq_true rfl) (sX9_copy_0 a0 x1 x2 x3 x4 x5 h hf)
theorem dX9_mean_0 : decode cX9_mean 0 = .ok (.iload_n 1, 1) := by decide +kernel
theorem dX9_mean_1 : decode cX9_mean 1 = .ok (.invokestatic 80, 3) := by decide +kernel
theorem dX9_mean_4 : decode cX9_mean 4 = .ok (.ifCond .ne 5, 3) := by decide +kernel
theorem dX9_mean_7 : decode cX9_mean 7 = .ok (.iconst (-1), 1) := by decide +kernel
theorem dX9_mean_8 : decode cX9_mean 8 = .ok (.ireturn, 1) := by decide +kernel
theorem dX9_mean_9 : decode cX9_mean 9 = .ok (.aload_n 0, 1) := by decide +kernel
theorem dX9_mean_10 : decode cX9_mean 10 = .ok (.getfield 25, 3) := by decide +kernel
theorem dX9_mean_13 : decode cX9_mean 13 = .ok (.iload_n 1, 1) := by decide +kernel
theorem dX9_mean_14 : decode cX9_mean 14 = .ok (.iaload, 1) := by decide +kernel
theorem dX9_mean_15 : decode cX9_mean 15 = .ok (.ifCond .ge 9, 3) := by decide +kernel
theorem dX9_mean_18 : decode cX9_mean 18 = .ok (.aload_n 0, 1) := by decide +kernel
theorem dX9_mean_19 : decode cX9_mean 19 = .ok (.iconst 1, 1) := by decide +kernel
theorem dX9_mean_20 : decode cX9_mean 20 = .ok (.invokevirtual 84, 3) := by decide +kernel
theorem dX9_mean_23 : decode cX9_mean 23 = .ok (.ireturn, 1) := by decide +kernel
theorem dX9_mean_24 : decode cX9_mean 24 = .ok (.aload_n 0, 1) := by decide +kernel
theorem dX9_mean_25 : decode cX9_mean 25 = .ok (.getfield 25, 3) := by decide +kernel
theorem dX9_mean_28 : decode cX9_mean 28 = .ok (.iload_n 1, 1) := by decide +kernel
theorem dX9_mean_29 : decode cX9_mean 29 = .ok (.iaload, 1) := by decide +kernel
theorem dX9_mean_30 : decode cX9_mean 30 = .ok (.ifCond .ne 9, 3) := by decide +kernel
theorem dX9_mean_33 : decode cX9_mean 33 = .ok (.aload_n 0, 1) := by decide +kernel
theorem dX9_mean_34 : decode cX9_mean 34 = .ok (.iconst 4, 1) := by decide +kernel
theorem dX9_mean_35 : decode cX9_mean 35 = .ok (.invokevirtual 84, 3) := by decide +kernel
theorem dX9_mean_38 : decode cX9_mean 38 = .ok (.ireturn, 1) := by decide +kernel
theorem dX9_mean_39 : decode cX9_mean 39 = .ok (.lconst 0, 1) := by decide +kernel
theorem dX9_mean_40 : decode cX9_mean 40 = .ok (.lstore_n 2, 1) := by decide +kernel
theorem dX9_mean_41 : decode cX9_mean 41 = .ok (.iconst 0, 1) := by decide +kernel
theorem dX9_mean_42 : decode cX9_mean 42 = .ok (.istore 4, 2) := by decide +kernel
theorem dX9_mean_44 : decode cX9_mean 44 = .ok (.iload 4, 2) := by decide +kernel
theorem dX9_mean_46 : decode cX9_mean 46 = .ok (.aload_n 0, 1) := by decide +kernel
theorem dX9_mean_47 : decode cX9_mean 47 = .ok (.getfield 25, 3) := by decide +kernel
theorem dX9_mean_50 : decode cX9_mean 50 = .ok (.iload_n 1, 1) := by decide +kernel
theorem dX9_mean_51 : decode cX9_mean 51 = .ok (.iaload, 1) := by decide +kernel
theorem dX9_mean_52 : decode cX9_mean 52 = .ok (.if_icmp .ge 25, 3) := by decide +kernel
theorem dX9_mean_55 : decode cX9_mean 55 = .ok (.lload_n 2, 1) := by decide +kernel
theorem dX9_mean_56 : decode cX9_mean 56 = .ok (.aload_n 0, 1) := by decide +kernel
theorem dX9_mean_57 : decode cX9_mean 57 = .ok (.getfield 28, 3) := by decide +kernel
theorem dX9_mean_60 : decode cX9_mean 60 = .ok (.bipush 40, 2) := by decide +kernel
theorem dX9_mean_62 : decode cX9_mean 62 = .ok (.iload_n 1, 1) := by decide +kernel
theorem dX9_mean_63 : decode cX9_mean 63 = .ok (.imul, 1) := by decide +kernel
theorem dX9_mean_64 : decode cX9_mean 64 = .ok (.iload 4, 2) := by decide +kernel
theorem dX9_mean_66 : decode cX9_mean 66 = .ok (.iadd, 1) := by decide +kernel
theorem dX9_mean_67 : decode cX9_mean 67 = .ok (.iaload, 1) := by decide +kernel
theorem dX9_mean_68 : decode cX9_mean 68 = .ok (.i2l, 1) := by decide +kernel
theorem dX9_mean_69 : decode cX9_mean 69 = .ok (.ladd, 1) := by decide +kernel
theorem dX9_mean_70 : decode cX9_mean 70 = .ok (.lstore_n 2, 1) := by decide +kernel
theorem dX9_mean_71 : decode cX9_mean 71 = .ok (.iinc 4 1, 3) := by decide +kernel
theorem dX9_mean_74 : decode cX9_mean 74 = .ok (.goto (-30), 3) := by decide +kernel
theorem dX9_mean_77 : decode cX9_mean 77 = .ok (.aload_n 0, 1) := by decide +kernel
theorem dX9_mean_78 : decode cX9_mean 78 = .ok (.lload_n 2, 1) := by decide +kernel
theorem dX9_mean_79 : decode cX9_mean 79 = .ok (.aload_n 0, 1) := by decide +kernel
theorem dX9_mean_80 : decode cX9_mean 80 = .ok (.getfield 25, 3) := by decide +kernel
theorem dX9_mean_83 : decode cX9_mean 83 = .ok (.iload_n 1, 1) := by decide +kernel
theorem dX9_mean_84 : decode cX9_mean 84 = .ok (.iaload, 1) := by decide +kernel
theorem dX9_mean_85 : decode cX9_mean 85 = .ok (.i2l, 1) := by decide +kernel
theorem dX9_mean_86 : decode cX9_mean 86 = .ok (.ldiv, 1) := by decide +kernel
theorem dX9_mean_87 : decode cX9_mean 87 = .ok (.l2i, 1) := by decide +kernel
theorem dX9_mean_88 : decode cX9_mean 88 = .ok (.invokevirtual 96, 3) := by decide +kernel
theorem dX9_mean_91 : decode cX9_mean 91 = .ok (.ireturn, 1) := by decide +kernel
def fX9_mean_44  : Nat → Nat → Int32 → Int64 → Int32 → gz_H → Option (Int32 × gz_H)
  | 0, _, _, _, _, _ => none
  | n + 1, a0, x1, x2, x4, h =>
    gz_ck (gz_sh h a0 9 29) <|
    gz_br (h.2.2.2 a0 7) fun r_2 =>
    gz_ck (gz_inb h r_2 10 x1) <|
    if (h.2.1 r_2 x1.toNatClampNeg) ≤ x4 then (
     gz_ck (gz_nzL ((h.2.1 r_2 x1.toNatClampNeg).toInt64)) <|
     gz_b2 (fX9_tell a0 ((x2 / ((h.2.1 r_2 x1.toNatClampNeg).toInt64)).toInt32) h) fun y_7 h_6 =>
     some (y_7, h_6)
    ) else (
     gz_br (h.2.2.2 a0 8) fun r_8 =>
     gz_ck (gz_inb h r_8 10 (((40 : Int32) * x1) + x4)) <|
     gz_lt (x2 + ((h.2.1 r_8 (((40 : Int32) * x1) + x4).toNatClampNeg).toInt64)) fun (y_10 : Int64) =>
     fX9_mean_44 n a0 x1 y_10 (x4 + 1) h
    )
set_option maxRecDepth 100000 in
set_option maxHeartbeats 1000000 in
theorem sX9_mean_44 {G : gz_G} {d l0 s0 : Nat} {Q : Int32 → gz_H → Prop} : ∀ (n : Nat) (a0 : Nat) (x1 : Int32) (x2 : Int64) (x4 : Int32) (h : gz_H), gz_g (fX9_mean_44  n a0 x1 x2 x4 h) Q → gz_Ok G mX9_mean (d + 2, l0, s0, 0, 0) 44 [.ref a0, .int x1, .long x2, .retAddr 0, .int x4] [] h (gz_qi Q) := by
  intro n
  induction n with
  | zero => intro a0 x1 x2 x4 h hf; exact False.elim hf
  | succ n ih =>
    intro a0 x1 x2 x4 h hf
    rw [fX9_mean_44] at hf
    refine gz_iload (pc := 44) dX9_mean_44 rfl ?_
    refine gz_aload_n (pc := 46) dX9_mean_46 rfl rfl ?_
    refine gz_gk hf (fun c_1 hf => ?_)
    refine gz_gb hf (fun r_2 er_2 hf => ?_)
    refine gz_getR (pc := 47) dX9_mean_47 fl_RX9_25 rfl (gz_shs c_1) er_2 ?_
    refine gz_iload_n (pc := 50) dX9_mean_50 rfl rfl ?_
    refine gz_gk hf (fun c_3 hf => ?_)
    refine gz_iald (pc := 51) dX9_mean_51 c_3 ?_
    refine gz_icmp_ge (tgt := 77) (pc := 52) dX9_mean_52 rfl (fun c_4 => ?_) (fun c_4 => ?_)
    · have hf := gz_gT hf c_4
      refine gz_aload_n (pc := 77) dX9_mean_77 rfl rfl ?_
      refine gz_lload_n (pc := 78) dX9_mean_78 rfl rfl ?_
      refine gz_aload_n (pc := 79) dX9_mean_79 rfl rfl ?_
      refine gz_getR (pc := 80) dX9_mean_80 fl_RX9_25 rfl (gz_shs c_1) er_2 ?_
      refine gz_iload_n (pc := 83) dX9_mean_83 rfl rfl ?_
      refine gz_iald (pc := 84) dX9_mean_84 c_3 ?_
      refine gz_i2l (pc := 85) dX9_mean_85 ?_
      refine gz_gk hf (fun c_5 hf => ?_)
      refine gz_ldiv (pc := 86) dX9_mean_86 (gz_nzLs c_5) ?_
      refine gz_l2i (pc := 87) dX9_mean_87 ?_
      refine gz_cVI (av := [.int ((x2 / ((h.2.1 r_2 x1.toNatClampNeg).toInt64)).toInt32)]) (st := []) (pc := 88) dX9_mean_88 kl_RX9_96 rfl (gz_shs c_1) rfl rfl (Nat.le_of_ble_eq_true rfl) (by show d + 1 + 0 + 1 ≤ d + 2; omega) (sX9_tell (d := d + 1) (gz_gc hf)) (fun y_7 h_6 hf => ?_)
      exact gz_irt (pc := 91) dX9_mean_91 rfl rfl hf
    · have hf := gz_gF hf c_4
      refine gz_lload_n (pc := 55) dX9_mean_55 rfl rfl ?_
      refine gz_aload_n (pc := 56) dX9_mean_56 rfl rfl ?_
      refine gz_gb hf (fun r_8 er_8 hf => ?_)
      refine gz_getR (pc := 57) dX9_mean_57 fl_RX9_28 rfl (gz_shs c_1) er_8 ?_
      refine gz_bipush (v := (40 : Int32)) (pc := 60) dX9_mean_60 rfl ?_
      refine gz_iload_n (pc := 62) dX9_mean_62 rfl rfl ?_
      refine gz_imul (pc := 63) dX9_mean_63 ?_
      refine gz_iload (pc := 64) dX9_mean_64 rfl ?_
      refine gz_iadd (pc := 66) dX9_mean_66 ?_
      refine gz_gk hf (fun c_9 hf => ?_)
      refine gz_iald (pc := 67) dX9_mean_67 c_9 ?_
      refine gz_i2l (pc := 68) dX9_mean_68 ?_
      refine gz_ladd (pc := 69) dX9_mean_69 ?_
      refine gz_nmL (fun y_10 ey_10 => ?_)
      have hf := gz_gl ey_10 hf
      refine gz_lstore_n (lv := [.ref a0, .int x1, .long y_10, .retAddr 0, .int x4]) (pc := 70) dX9_mean_70 rfl (by decide) rfl ?_
      refine gz_iinc (v := x4 + 1) (lv := [.ref a0, .int x1, .long y_10, .retAddr 0, .int (x4 + 1)]) (pc := 71) dX9_mean_71 rfl rfl (by decide) rfl ?_
      refine gz_goto (tgt := 44) (pc := 74) dX9_mean_74 rfl ?_
      exact ih a0 x1 y_10 (x4 + 1) h hf
def fX9_mean_0  (a0 : Nat) (x1 : Int32) (h : gz_H) : Option (Int32 × gz_H) :=
    gz_b2 (fX9_isRow x1 h) fun y_2 h_1 =>
    if y_2 = 0 then (
     some ((-1 : Int32), h_1)
    ) else (
     gz_ck (gz_sh h_1 a0 9 29) <|
     gz_br (h_1.2.2.2 a0 7) fun r_5 =>
     gz_ck (gz_inb h_1 r_5 10 x1) <|
     if 0 ≤ (h_1.2.1 r_5 x1.toNatClampNeg) then (
      if (h_1.2.1 r_5 x1.toNatClampNeg) = 0 then (
       gz_b2 (fX9_find a0 (4 : Int32) h_1) fun y_10 h_9 =>
       some (y_10, h_9)
      ) else (
       fX9_mean_44 gz_fu a0 x1 (0 : Int64) (0 : Int32) h_1
      )
     ) else (
      gz_b2 (fX9_find a0 (1 : Int32) h_1) fun y_12 h_11 =>
      some (y_12, h_11)
     )
    )
set_option maxRecDepth 100000 in
set_option maxHeartbeats 1000000 in
theorem sX9_mean_0 {G : gz_G} {d l0 s0 : Nat} {Q : Int32 → gz_H → Prop} (a0 : Nat) (x1 : Int32) (h : gz_H) (hf : gz_g (fX9_mean_0  a0 x1 h) Q) : gz_Ok G mX9_mean (d + 2, l0, s0, 0, 0) 0 [.ref a0, .int x1, .retAddr 0, .retAddr 0, .retAddr 0] [] h (gz_qi Q) := by
  unfold fX9_mean_0 at hf
  refine gz_iload_n (pc := 0) dX9_mean_0 rfl rfl ?_
  refine gz_cSI (av := [.int x1]) (st := []) (pc := 1) dX9_mean_1 kl_RX9_80 rfl rfl (Nat.le_of_ble_eq_true rfl) (by show d + 0 + 1 + 1 ≤ d + 2; omega) (sX9_isRow (d := d + 0) (gz_gc hf)) (fun y_2 h_1 hf => ?_)
  refine gz_if_ne (tgt := 9) (pc := 4) dX9_mean_4 rfl (fun c_3 => ?_) (fun c_3 => ?_)
  · have hf := gz_gF hf c_3
    refine gz_aload_n (pc := 9) dX9_mean_9 rfl rfl ?_
    refine gz_gk hf (fun c_4 hf => ?_)
    refine gz_gb hf (fun r_5 er_5 hf => ?_)
    refine gz_getR (pc := 10) dX9_mean_10 fl_RX9_25 rfl (gz_shs c_4) er_5 ?_
    refine gz_iload_n (pc := 13) dX9_mean_13 rfl rfl ?_
    refine gz_gk hf (fun c_6 hf => ?_)
    refine gz_iald (pc := 14) dX9_mean_14 c_6 ?_
    refine gz_if_ge (tgt := 24) (pc := 15) dX9_mean_15 rfl (fun c_7 => ?_) (fun c_7 => ?_)
    · have hf := gz_gT hf c_7
      refine gz_aload_n (pc := 24) dX9_mean_24 rfl rfl ?_
      refine gz_getR (pc := 25) dX9_mean_25 fl_RX9_25 rfl (gz_shs c_4) er_5 ?_
      refine gz_iload_n (pc := 28) dX9_mean_28 rfl rfl ?_
      refine gz_iald (pc := 29) dX9_mean_29 c_6 ?_
      refine gz_if_ne (tgt := 39) (pc := 30) dX9_mean_30 rfl (fun c_8 => ?_) (fun c_8 => ?_)
      · have hf := gz_gF hf c_8
        refine gz_lconst (v := (0 : Int64)) (pc := 39) dX9_mean_39 rfl ?_
        refine gz_lstore_n (lv := [.ref a0, .int x1, .long (0 : Int64), .retAddr 0, .retAddr 0]) (pc := 40) dX9_mean_40 rfl (by decide) rfl ?_
        refine gz_iconst (v := (0 : Int32)) (pc := 41) dX9_mean_41 rfl ?_
        refine gz_istore (lv := [.ref a0, .int x1, .long (0 : Int64), .retAddr 0, .int (0 : Int32)]) (pc := 42) dX9_mean_42 (by decide) rfl ?_
        exact sX9_mean_44 gz_fu a0 x1 (0 : Int64) (0 : Int32) h_1 hf
      · have hf := gz_gT hf c_8
        refine gz_aload_n (pc := 33) dX9_mean_33 rfl rfl ?_
        refine gz_iconst (v := (4 : Int32)) (pc := 34) dX9_mean_34 rfl ?_
        refine gz_cVI (av := [.int (4 : Int32)]) (st := []) (pc := 35) dX9_mean_35 kl_RX9_84 rfl (gz_shs c_4) rfl rfl (Nat.le_of_ble_eq_true rfl) (by show d + 1 + 0 + 1 ≤ d + 2; omega) (sX9_find (d := d + 1) (gz_gc hf)) (fun y_10 h_9 hf => ?_)
        exact gz_irt (pc := 38) dX9_mean_38 rfl rfl hf
    · have hf := gz_gF hf c_7
      refine gz_aload_n (pc := 18) dX9_mean_18 rfl rfl ?_
      refine gz_iconst (v := (1 : Int32)) (pc := 19) dX9_mean_19 rfl ?_
      refine gz_cVI (av := [.int (1 : Int32)]) (st := []) (pc := 20) dX9_mean_20 kl_RX9_84 rfl (gz_shs c_4) rfl rfl (Nat.le_of_ble_eq_true rfl) (by show d + 1 + 0 + 1 ≤ d + 2; omega) (sX9_find (d := d + 1) (gz_gc hf)) (fun y_12 h_11 hf => ?_)
      exact gz_irt (pc := 23) dX9_mean_23 rfl rfl hf
  · have hf := gz_gT hf c_3
    refine gz_iconst (v := (-1 : Int32)) (pc := 7) dX9_mean_7 rfl ?_
    exact gz_irt (pc := 8) dX9_mean_8 rfl rfl hf
def fX9_mean (a0 : Nat) (x1 : Int32) (h : gz_H) : Option (Int32 × gz_H) := fX9_mean_0 a0 x1 h
theorem sX9_mean {G : gz_G} {d : Nat} {a0 : Nat} {x1 : Int32} {h : gz_H} {Q : Int32 → gz_H → Prop} (hf : gz_g (fX9_mean a0 x1 h) Q) : gz_Cl G mX9_mean (d + 2) 0 0 [.ref a0, .int x1] h (gz_qi Q) := gz_cl_of (lo := [.ref a0, .int x1, .retAddr 0, .retAddr 0, .retAddr 0]) (by decide) rfl rfl (Nat.le_of_ble_eq_true rfl) (sX9_mean_0 a0 x1 h hf)
theorem dX9_text_0 : decode cX9_text 0 = .ok (.iload_n 1, 1) := by decide +kernel
theorem dX9_text_1 : decode cX9_text 1 = .ok (.invokestatic 103, 3) := by decide +kernel
theorem dX9_text_4 : decode cX9_text 4 = .ok (.ifCond .eq 9, 3) := by decide +kernel
theorem dX9_text_7 : decode cX9_text 7 = .ok (.iload_n 2, 1) := by decide +kernel
theorem dX9_text_8 : decode cX9_text 8 = .ok (.bipush 80, 2) := by decide +kernel
theorem dX9_text_10 : decode cX9_text 10 = .ok (.if_icmp .le 5, 3) := by decide +kernel
theorem dX9_text_13 : decode cX9_text 13 = .ok (.iconst (-1), 1) := by decide +kernel
theorem dX9_text_14 : decode cX9_text 14 = .ok (.ireturn, 1) := by decide +kernel
theorem dX9_text_15 : decode cX9_text 15 = .ok (.iload_n 2, 1) := by decide +kernel
theorem dX9_text_16 : decode cX9_text 16 = .ok (.ifCond .ge 9, 3) := by decide +kernel
theorem dX9_text_19 : decode cX9_text 19 = .ok (.aload_n 0, 1) := by decide +kernel
theorem dX9_text_20 : decode cX9_text 20 = .ok (.iconst 5, 1) := by decide +kernel
theorem dX9_text_21 : decode cX9_text 21 = .ok (.invokevirtual 84, 3) := by decide +kernel
theorem dX9_text_24 : decode cX9_text 24 = .ok (.ireturn, 1) := by decide +kernel
theorem dX9_text_25 : decode cX9_text 25 = .ok (.aload_n 0, 1) := by decide +kernel
theorem dX9_text_26 : decode cX9_text 26 = .ok (.getfield 31, 3) := by decide +kernel
theorem dX9_text_29 : decode cX9_text 29 = .ok (.iload_n 1, 1) := by decide +kernel
theorem dX9_text_30 : decode cX9_text 30 = .ok (.iload_n 2, 1) := by decide +kernel
theorem dX9_text_31 : decode cX9_text 31 = .ok (.iastore, 1) := by decide +kernel
theorem dX9_text_32 : decode cX9_text 32 = .ok (.iconst 0, 1) := by decide +kernel
theorem dX9_text_33 : decode cX9_text 33 = .ok (.istore_n 3, 1) := by decide +kernel
theorem dX9_text_34 : decode cX9_text 34 = .ok (.iload_n 3, 1) := by decide +kernel
theorem dX9_text_35 : decode cX9_text 35 = .ok (.bipush 80, 2) := by decide +kernel
theorem dX9_text_37 : decode cX9_text 37 = .ok (.if_icmp .ge 22, 3) := by decide +kernel
theorem dX9_text_40 : decode cX9_text 40 = .ok (.aload_n 0, 1) := by decide +kernel
theorem dX9_text_41 : decode cX9_text 41 = .ok (.getfield 34, 3) := by decide +kernel
theorem dX9_text_44 : decode cX9_text 44 = .ok (.bipush 80, 2) := by decide +kernel
theorem dX9_text_46 : decode cX9_text 46 = .ok (.iload_n 1, 1) := by decide +kernel
theorem dX9_text_47 : decode cX9_text 47 = .ok (.imul, 1) := by decide +kernel
theorem dX9_text_48 : decode cX9_text 48 = .ok (.iload_n 3, 1) := by decide +kernel
theorem dX9_text_49 : decode cX9_text 49 = .ok (.iadd, 1) := by decide +kernel
theorem dX9_text_50 : decode cX9_text 50 = .ok (.bipush 32, 2) := by decide +kernel
theorem dX9_text_52 : decode cX9_text 52 = .ok (.iastore, 1) := by decide +kernel
theorem dX9_text_53 : decode cX9_text 53 = .ok (.iinc 3 1, 3) := by decide +kernel
theorem dX9_text_56 : decode cX9_text 56 = .ok (.goto (-22), 3) := by decide +kernel
theorem dX9_text_59 : decode cX9_text 59 = .ok (.iload_n 2, 1) := by decide +kernel
theorem dX9_text_60 : decode cX9_text 60 = .ok (.ireturn, 1) := by decide +kernel
def fX9_text_34  : Nat → Nat → Int32 → Int32 → Int32 → gz_H → Option (Int32 × gz_H)
  | 0, _, _, _, _, _ => none
  | n + 1, a0, x1, x2, x3, h =>
    if (80 : Int32) ≤ x3 then (
     some (x2, h)
    ) else (
     gz_ck (gz_sh h a0 9 29) <|
     gz_br (h.2.2.2 a0 10) fun r_3 =>
     gz_ck (gz_inb h r_3 10 (((80 : Int32) * x1) + x3)) <|
     gz_lt (uI h r_3 (((80 : Int32) * x1) + x3).toNatClampNeg (32 : Int32)) fun h_5 =>
     fX9_text_34 n a0 x1 x2 (x3 + 1) h_5
    )
set_option maxRecDepth 100000 in
set_option maxHeartbeats 1000000 in
theorem sX9_text_34 {G : gz_G} {d l0 s0 : Nat} {Q : Int32 → gz_H → Prop} : ∀ (n : Nat) (a0 : Nat) (x1 : Int32) (x2 : Int32) (x3 : Int32) (h : gz_H), gz_g (fX9_text_34  n a0 x1 x2 x3 h) Q → gz_Ok G mX9_text (d + 2, l0, s0, 0, 0) 34 [.ref a0, .int x1, .int x2, .int x3] [] h (gz_qi Q) := by
  intro n
  induction n with
  | zero => intro a0 x1 x2 x3 h hf; exact False.elim hf
  | succ n ih =>
    intro a0 x1 x2 x3 h hf
    rw [fX9_text_34] at hf
    refine gz_iload_n (pc := 34) dX9_text_34 rfl rfl ?_
    refine gz_bipush (v := (80 : Int32)) (pc := 35) dX9_text_35 rfl ?_
    refine gz_icmp_ge (tgt := 59) (pc := 37) dX9_text_37 rfl (fun c_1 => ?_) (fun c_1 => ?_)
    · have hf := gz_gT hf c_1
      refine gz_iload_n (pc := 59) dX9_text_59 rfl rfl ?_
      exact gz_irt (pc := 60) dX9_text_60 rfl rfl hf
    · have hf := gz_gF hf c_1
      refine gz_aload_n (pc := 40) dX9_text_40 rfl rfl ?_
      refine gz_gk hf (fun c_2 hf => ?_)
      refine gz_gb hf (fun r_3 er_3 hf => ?_)
      refine gz_getR (pc := 41) dX9_text_41 fl_RX9_34 rfl (gz_shs c_2) er_3 ?_
      refine gz_bipush (v := (80 : Int32)) (pc := 44) dX9_text_44 rfl ?_
      refine gz_iload_n (pc := 46) dX9_text_46 rfl rfl ?_
      refine gz_imul (pc := 47) dX9_text_47 ?_
      refine gz_iload_n (pc := 48) dX9_text_48 rfl rfl ?_
      refine gz_iadd (pc := 49) dX9_text_49 ?_
      refine gz_bipush (v := (32 : Int32)) (pc := 50) dX9_text_50 rfl ?_
      refine gz_gk hf (fun c_4 hf => ?_)
      refine gz_iast (pc := 52) dX9_text_52 c_4 ?_
      refine gz_nmH (fun h_5 eh_5 => ?_)
      have hf := gz_gl eh_5 hf
      refine gz_iinc (v := x3 + 1) (lv := [.ref a0, .int x1, .int x2, .int (x3 + 1)]) (pc := 53) dX9_text_53 rfl rfl (by decide) rfl ?_
      refine gz_goto (tgt := 34) (pc := 56) dX9_text_56 rfl ?_
      exact ih a0 x1 x2 (x3 + 1) h_5 hf
def fX9_text_0  (a0 : Nat) (x1 : Int32) (x2 : Int32) (h : gz_H) : Option (Int32 × gz_H) :=
    gz_b2 (fX9_isText x1 h) fun y_2 h_1 =>
    if y_2 = 0 then (
     some ((-1 : Int32), h_1)
    ) else (
     if x2 ≤ (80 : Int32) then (
      if 0 ≤ x2 then (
       gz_ck (gz_sh h_1 a0 9 29) <|
       gz_br (h_1.2.2.2 a0 9) fun r_7 =>
       gz_ck (gz_inb h_1 r_7 10 x1) <|
       gz_lt (uI h_1 r_7 x1.toNatClampNeg x2) fun h_9 =>
       fX9_text_34 gz_fu a0 x1 x2 (0 : Int32) h_9
      ) else (
       gz_ck (gz_sh h_1 a0 9 29) <|
       gz_b2 (fX9_find a0 (5 : Int32) h_1) fun y_11 h_10 =>
       some (y_11, h_10)
      )
     ) else (
      some ((-1 : Int32), h_1)
     )
    )
set_option maxRecDepth 100000 in
set_option maxHeartbeats 1000000 in
theorem sX9_text_0 {G : gz_G} {d l0 s0 : Nat} {Q : Int32 → gz_H → Prop} (a0 : Nat) (x1 : Int32) (x2 : Int32) (h : gz_H) (hf : gz_g (fX9_text_0  a0 x1 x2 h) Q) : gz_Ok G mX9_text (d + 2, l0, s0, 0, 0) 0 [.ref a0, .int x1, .int x2, .retAddr 0] [] h (gz_qi Q) := by
  unfold fX9_text_0 at hf
  refine gz_iload_n (pc := 0) dX9_text_0 rfl rfl ?_
  refine gz_cSI (av := [.int x1]) (st := []) (pc := 1) dX9_text_1 kl_RX9_103 rfl rfl (Nat.le_of_ble_eq_true rfl) (by show d + 0 + 1 + 1 ≤ d + 2; omega) (sX9_isText (d := d + 0) (gz_gc hf)) (fun y_2 h_1 hf => ?_)
  refine gz_if_eq (tgt := 13) (pc := 4) dX9_text_4 rfl (fun c_3 => ?_) (fun c_3 => ?_)
  · have hf := gz_gT hf c_3
    refine gz_iconst (v := (-1 : Int32)) (pc := 13) dX9_text_13 rfl ?_
    exact gz_irt (pc := 14) dX9_text_14 rfl rfl hf
  · have hf := gz_gF hf c_3
    refine gz_iload_n (pc := 7) dX9_text_7 rfl rfl ?_
    refine gz_bipush (v := (80 : Int32)) (pc := 8) dX9_text_8 rfl ?_
    refine gz_icmp_le (tgt := 15) (pc := 10) dX9_text_10 rfl (fun c_4 => ?_) (fun c_4 => ?_)
    · have hf := gz_gT hf c_4
      refine gz_iload_n (pc := 15) dX9_text_15 rfl rfl ?_
      refine gz_if_ge (tgt := 25) (pc := 16) dX9_text_16 rfl (fun c_5 => ?_) (fun c_5 => ?_)
      · have hf := gz_gT hf c_5
        refine gz_aload_n (pc := 25) dX9_text_25 rfl rfl ?_
        refine gz_gk hf (fun c_6 hf => ?_)
        refine gz_gb hf (fun r_7 er_7 hf => ?_)
        refine gz_getR (pc := 26) dX9_text_26 fl_RX9_31 rfl (gz_shs c_6) er_7 ?_
        refine gz_iload_n (pc := 29) dX9_text_29 rfl rfl ?_
        refine gz_iload_n (pc := 30) dX9_text_30 rfl rfl ?_
        refine gz_gk hf (fun c_8 hf => ?_)
        refine gz_iast (pc := 31) dX9_text_31 c_8 ?_
        refine gz_nmH (fun h_9 eh_9 => ?_)
        have hf := gz_gl eh_9 hf
        refine gz_iconst (v := (0 : Int32)) (pc := 32) dX9_text_32 rfl ?_
        refine gz_istore_n (lv := [.ref a0, .int x1, .int x2, .int (0 : Int32)]) (pc := 33) dX9_text_33 rfl (by decide) rfl ?_
        exact sX9_text_34 gz_fu a0 x1 x2 (0 : Int32) h_9 hf
      · have hf := gz_gF hf c_5
        refine gz_aload_n (pc := 19) dX9_text_19 rfl rfl ?_
        refine gz_iconst (v := (5 : Int32)) (pc := 20) dX9_text_20 rfl ?_
        refine gz_gk hf (fun c_12 hf => ?_)
        refine gz_cVI (av := [.int (5 : Int32)]) (st := []) (pc := 21) dX9_text_21 kl_RX9_84 rfl (gz_shs c_12) rfl rfl (Nat.le_of_ble_eq_true rfl) (by show d + 1 + 0 + 1 ≤ d + 2; omega) (sX9_find (d := d + 1) (gz_gc hf)) (fun y_11 h_10 hf => ?_)
        exact gz_irt (pc := 24) dX9_text_24 rfl rfl hf
    · have hf := gz_gF hf c_4
      refine gz_iconst (v := (-1 : Int32)) (pc := 13) dX9_text_13 rfl ?_
      exact gz_irt (pc := 14) dX9_text_14 rfl rfl hf
def fX9_text (a0 : Nat) (x1 : Int32) (x2 : Int32) (h : gz_H) : Option (Int32 × gz_H) := fX9_text_0 a0 x1 x2 h
theorem sX9_text {G : gz_G} {d : Nat} {a0 : Nat} {x1 : Int32} {x2 : Int32} {h : gz_H} {Q : Int32 → gz_H → Prop} (hf : gz_g (fX9_text a0 x1 x2 h) Q) : gz_Cl G mX9_text (d + 2) 0 0 [.ref a0, .int x1, .int x2] h (gz_qi Q) := gz_cl_of (lo := [.ref a0, .int x1, .int x2, .retAddr 0]) (by decide) rfl rfl (Nat.le_of_ble_eq_true rfl) (sX9_text_0 a0 x1 x2 h hf)
theorem dX9_put_0 : decode cX9_put 0 = .ok (.iload_n 1, 1) := by decide +kernel
theorem dX9_put_1 : decode cX9_put 1 = .ok (.invokestatic 103, 3) := by decide +kernel
theorem dX9_put_4 : decode cX9_put 4 = .ok (.ifCond .ne 5, 3) := by decide +kernel
theorem dX9_put_7 : decode cX9_put 7 = .ok (.iconst (-1), 1) := by decide +kernel
theorem dX9_put_8 : decode cX9_put 8 = .ok (.ireturn, 1) := by decide +kernel
theorem dX9_put_9 : decode cX9_put 9 = .ok (.aload_n 0, 1) := by decide +kernel
theorem dX9_put_10 : decode cX9_put 10 = .ok (.getfield 31, 3) := by decide +kernel
theorem dX9_put_13 : decode cX9_put 13 = .ok (.iload_n 1, 1) := by decide +kernel
theorem dX9_put_14 : decode cX9_put 14 = .ok (.iaload, 1) := by decide +kernel
theorem dX9_put_15 : decode cX9_put 15 = .ok (.ifCond .ge 9, 3) := by decide +kernel
theorem dX9_put_18 : decode cX9_put 18 = .ok (.aload_n 0, 1) := by decide +kernel
theorem dX9_put_19 : decode cX9_put 19 = .ok (.iconst 1, 1) := by decide +kernel
theorem dX9_put_20 : decode cX9_put 20 = .ok (.invokevirtual 84, 3) := by decide +kernel
theorem dX9_put_23 : decode cX9_put 23 = .ok (.ireturn, 1) := by decide +kernel
theorem dX9_put_24 : decode cX9_put 24 = .ok (.iload_n 2, 1) := by decide +kernel
theorem dX9_put_25 : decode cX9_put 25 = .ok (.i2l, 1) := by decide +kernel
theorem dX9_put_26 : decode cX9_put 26 = .ok (.lconst 0, 1) := by decide +kernel
theorem dX9_put_27 : decode cX9_put 27 = .ok (.aload_n 0, 1) := by decide +kernel
theorem dX9_put_28 : decode cX9_put 28 = .ok (.getfield 31, 3) := by decide +kernel
theorem dX9_put_31 : decode cX9_put 31 = .ok (.iload_n 1, 1) := by decide +kernel
theorem dX9_put_32 : decode cX9_put 32 = .ok (.iaload, 1) := by decide +kernel
theorem dX9_put_33 : decode cX9_put 33 = .ok (.iconst 1, 1) := by decide +kernel
theorem dX9_put_34 : decode cX9_put 34 = .ok (.isub, 1) := by decide +kernel
theorem dX9_put_35 : decode cX9_put 35 = .ok (.i2l, 1) := by decide +kernel
theorem dX9_put_36 : decode cX9_put 36 = .ok (.invokestatic 74, 3) := by decide +kernel
theorem dX9_put_39 : decode cX9_put 39 = .ok (.ifCond .ne 9, 3) := by decide +kernel
theorem dX9_put_42 : decode cX9_put 42 = .ok (.aload_n 0, 1) := by decide +kernel
theorem dX9_put_43 : decode cX9_put 43 = .ok (.iconst 2, 1) := by decide +kernel
theorem dX9_put_44 : decode cX9_put 44 = .ok (.invokevirtual 84, 3) := by decide +kernel
theorem dX9_put_47 : decode cX9_put 47 = .ok (.ireturn, 1) := by decide +kernel
theorem dX9_put_48 : decode cX9_put 48 = .ok (.aload_n 0, 1) := by decide +kernel
theorem dX9_put_49 : decode cX9_put 49 = .ok (.getfield 34, 3) := by decide +kernel
theorem dX9_put_52 : decode cX9_put 52 = .ok (.bipush 80, 2) := by decide +kernel
theorem dX9_put_54 : decode cX9_put 54 = .ok (.iload_n 1, 1) := by decide +kernel
theorem dX9_put_55 : decode cX9_put 55 = .ok (.imul, 1) := by decide +kernel
theorem dX9_put_56 : decode cX9_put 56 = .ok (.iload_n 2, 1) := by decide +kernel
theorem dX9_put_57 : decode cX9_put 57 = .ok (.iadd, 1) := by decide +kernel
theorem dX9_put_58 : decode cX9_put 58 = .ok (.iaload, 1) := by decide +kernel
theorem dX9_put_59 : decode cX9_put 59 = .ok (.istore 4, 2) := by decide +kernel
theorem dX9_put_61 : decode cX9_put 61 = .ok (.aload_n 0, 1) := by decide +kernel
theorem dX9_put_62 : decode cX9_put 62 = .ok (.getfield 34, 3) := by decide +kernel
theorem dX9_put_65 : decode cX9_put 65 = .ok (.bipush 80, 2) := by decide +kernel
theorem dX9_put_67 : decode cX9_put 67 = .ok (.iload_n 1, 1) := by decide +kernel
theorem dX9_put_68 : decode cX9_put 68 = .ok (.imul, 1) := by decide +kernel
theorem dX9_put_69 : decode cX9_put 69 = .ok (.iload_n 2, 1) := by decide +kernel
theorem dX9_put_70 : decode cX9_put 70 = .ok (.iadd, 1) := by decide +kernel
theorem dX9_put_71 : decode cX9_put 71 = .ok (.iload_n 3, 1) := by decide +kernel
theorem dX9_put_72 : decode cX9_put 72 = .ok (.i2b, 1) := by decide +kernel
theorem dX9_put_73 : decode cX9_put 73 = .ok (.iastore, 1) := by decide +kernel
theorem dX9_put_74 : decode cX9_put 74 = .ok (.iload 4, 2) := by decide +kernel
theorem dX9_put_76 : decode cX9_put 76 = .ok (.sipush 1000, 3) := by decide +kernel
theorem dX9_put_79 : decode cX9_put 79 = .ok (.iadd, 1) := by decide +kernel
theorem dX9_put_80 : decode cX9_put 80 = .ok (.ireturn, 1) := by decide +kernel
def fX9_put_0  (a0 : Nat) (x1 : Int32) (x2 : Int32) (x3 : Int32) (h : gz_H) : Option (Int32 × gz_H) :=
    gz_b2 (fX9_isText x1 h) fun y_2 h_1 =>
    if y_2 = 0 then (
     some ((-1 : Int32), h_1)
    ) else (
     gz_ck (gz_sh h_1 a0 9 29) <|
     gz_br (h_1.2.2.2 a0 9) fun r_5 =>
     gz_ck (gz_inb h_1 r_5 10 x1) <|
     if 0 ≤ (h_1.2.1 r_5 x1.toNatClampNeg) then (
      gz_b2 (fX9_in x2.toInt64 (0 : Int64) (((h_1.2.1 r_5 x1.toNatClampNeg) - (1 : Int32)).toInt64) h_1) fun y_9 h_8 =>
      if y_9 = 0 then (
       gz_ck (gz_sh h_8 a0 9 29) <|
       gz_b2 (fX9_find a0 (2 : Int32) h_8) fun y_17 h_16 =>
       some (y_17, h_16)
      ) else (
       gz_ck (gz_sh h_8 a0 9 29) <|
       gz_br (h_8.2.2.2 a0 10) fun r_12 =>
       gz_ck (gz_inb h_8 r_12 10 (((80 : Int32) * x1) + x2)) <|
       gz_lt (h_8.2.1 r_12 (((80 : Int32) * x1) + x2).toNatClampNeg) fun (y_14 : Int32) =>
       gz_lt (uI h_8 r_12 (((80 : Int32) * x1) + x2).toNatClampNeg x3.toInt8.toInt32) fun h_15 =>
       some (y_14 + (1000 : Int32), h_15)
      )
     ) else (
      gz_b2 (fX9_find a0 (1 : Int32) h_1) fun y_20 h_19 =>
      some (y_20, h_19)
     )
    )
set_option maxRecDepth 100000 in
set_option maxHeartbeats 1000000 in
theorem sX9_put_0 {G : gz_G} {d l0 s0 : Nat} {Q : Int32 → gz_H → Prop} (a0 : Nat) (x1 : Int32) (x2 : Int32) (x3 : Int32) (h : gz_H) (hf : gz_g (fX9_put_0  a0 x1 x2 x3 h) Q) : gz_Ok G mX9_put (d + 2, l0, s0, 0, 0) 0 [.ref a0, .int x1, .int x2, .int x3, .retAddr 0] [] h (gz_qi Q) := by
  unfold fX9_put_0 at hf
  refine gz_iload_n (pc := 0) dX9_put_0 rfl rfl ?_
  refine gz_cSI (av := [.int x1]) (st := []) (pc := 1) dX9_put_1 kl_RX9_103 rfl rfl (Nat.le_of_ble_eq_true rfl) (by show d + 0 + 1 + 1 ≤ d + 2; omega) (sX9_isText (d := d + 0) (gz_gc hf)) (fun y_2 h_1 hf => ?_)
  refine gz_if_ne (tgt := 9) (pc := 4) dX9_put_4 rfl (fun c_3 => ?_) (fun c_3 => ?_)
  · have hf := gz_gF hf c_3
    refine gz_aload_n (pc := 9) dX9_put_9 rfl rfl ?_
    refine gz_gk hf (fun c_4 hf => ?_)
    refine gz_gb hf (fun r_5 er_5 hf => ?_)
    refine gz_getR (pc := 10) dX9_put_10 fl_RX9_31 rfl (gz_shs c_4) er_5 ?_
    refine gz_iload_n (pc := 13) dX9_put_13 rfl rfl ?_
    refine gz_gk hf (fun c_6 hf => ?_)
    refine gz_iald (pc := 14) dX9_put_14 c_6 ?_
    refine gz_if_ge (tgt := 24) (pc := 15) dX9_put_15 rfl (fun c_7 => ?_) (fun c_7 => ?_)
    · have hf := gz_gT hf c_7
      refine gz_iload_n (pc := 24) dX9_put_24 rfl rfl ?_
      refine gz_i2l (pc := 25) dX9_put_25 ?_
      refine gz_lconst (v := (0 : Int64)) (pc := 26) dX9_put_26 rfl ?_
      refine gz_aload_n (pc := 27) dX9_put_27 rfl rfl ?_
      refine gz_getR (pc := 28) dX9_put_28 fl_RX9_31 rfl (gz_shs c_4) er_5 ?_
      refine gz_iload_n (pc := 31) dX9_put_31 rfl rfl ?_
      refine gz_iald (pc := 32) dX9_put_32 c_6 ?_
      refine gz_iconst (v := (1 : Int32)) (pc := 33) dX9_put_33 rfl ?_
      refine gz_isub (pc := 34) dX9_put_34 ?_
      refine gz_i2l (pc := 35) dX9_put_35 ?_
      refine gz_cSI (av := [.long x2.toInt64, .long (0 : Int64), .long (((h_1.2.1 r_5 x1.toNatClampNeg) - (1 : Int32)).toInt64)]) (st := []) (pc := 36) dX9_put_36 kl_RX9_74 rfl rfl (Nat.le_of_ble_eq_true rfl) (by show d + 1 + 0 + 1 ≤ d + 2; omega) (sX9_in (d := d + 1) (gz_gc hf)) (fun y_9 h_8 hf => ?_)
      refine gz_if_ne (tgt := 48) (pc := 39) dX9_put_39 rfl (fun c_10 => ?_) (fun c_10 => ?_)
      · have hf := gz_gF hf c_10
        refine gz_aload_n (pc := 48) dX9_put_48 rfl rfl ?_
        refine gz_gk hf (fun c_11 hf => ?_)
        refine gz_gb hf (fun r_12 er_12 hf => ?_)
        refine gz_getR (pc := 49) dX9_put_49 fl_RX9_34 rfl (gz_shs c_11) er_12 ?_
        refine gz_bipush (v := (80 : Int32)) (pc := 52) dX9_put_52 rfl ?_
        refine gz_iload_n (pc := 54) dX9_put_54 rfl rfl ?_
        refine gz_imul (pc := 55) dX9_put_55 ?_
        refine gz_iload_n (pc := 56) dX9_put_56 rfl rfl ?_
        refine gz_iadd (pc := 57) dX9_put_57 ?_
        refine gz_gk hf (fun c_13 hf => ?_)
        refine gz_iald (pc := 58) dX9_put_58 c_13 ?_
        refine gz_nmI (fun y_14 ey_14 => ?_)
        have hf := gz_gl ey_14 hf
        refine gz_istore (lv := [.ref a0, .int x1, .int x2, .int x3, .int y_14]) (pc := 59) dX9_put_59 (by decide) rfl ?_
        refine gz_aload_n (pc := 61) dX9_put_61 rfl rfl ?_
        refine gz_getR (pc := 62) dX9_put_62 fl_RX9_34 rfl (gz_shs c_11) er_12 ?_
        refine gz_bipush (v := (80 : Int32)) (pc := 65) dX9_put_65 rfl ?_
        refine gz_iload_n (pc := 67) dX9_put_67 rfl rfl ?_
        refine gz_imul (pc := 68) dX9_put_68 ?_
        refine gz_iload_n (pc := 69) dX9_put_69 rfl rfl ?_
        refine gz_iadd (pc := 70) dX9_put_70 ?_
        refine gz_iload_n (pc := 71) dX9_put_71 rfl rfl ?_
        refine gz_i2b (pc := 72) dX9_put_72 ?_
        refine gz_iast (pc := 73) dX9_put_73 c_13 ?_
        refine gz_nmH (fun h_15 eh_15 => ?_)
        have hf := gz_gl eh_15 hf
        refine gz_iload (pc := 74) dX9_put_74 rfl ?_
        refine gz_sipush (v := (1000 : Int32)) (pc := 76) dX9_put_76 rfl ?_
        refine gz_iadd (pc := 79) dX9_put_79 ?_
        exact gz_irt (pc := 80) dX9_put_80 rfl rfl hf
      · have hf := gz_gT hf c_10
        refine gz_aload_n (pc := 42) dX9_put_42 rfl rfl ?_
        refine gz_iconst (v := (2 : Int32)) (pc := 43) dX9_put_43 rfl ?_
        refine gz_gk hf (fun c_18 hf => ?_)
        refine gz_cVI (av := [.int (2 : Int32)]) (st := []) (pc := 44) dX9_put_44 kl_RX9_84 rfl (gz_shs c_18) rfl rfl (Nat.le_of_ble_eq_true rfl) (by show d + 1 + 0 + 1 ≤ d + 2; omega) (sX9_find (d := d + 1) (gz_gc hf)) (fun y_17 h_16 hf => ?_)
        exact gz_irt (pc := 47) dX9_put_47 rfl rfl hf
    · have hf := gz_gF hf c_7
      refine gz_aload_n (pc := 18) dX9_put_18 rfl rfl ?_
      refine gz_iconst (v := (1 : Int32)) (pc := 19) dX9_put_19 rfl ?_
      refine gz_cVI (av := [.int (1 : Int32)]) (st := []) (pc := 20) dX9_put_20 kl_RX9_84 rfl (gz_shs c_4) rfl rfl (Nat.le_of_ble_eq_true rfl) (by show d + 1 + 0 + 1 ≤ d + 2; omega) (sX9_find (d := d + 1) (gz_gc hf)) (fun y_20 h_19 hf => ?_)
      exact gz_irt (pc := 23) dX9_put_23 rfl rfl hf
  · have hf := gz_gT hf c_3
    refine gz_iconst (v := (-1 : Int32)) (pc := 7) dX9_put_7 rfl ?_
    exact gz_irt (pc := 8) dX9_put_8 rfl rfl hf
def fX9_put (a0 : Nat) (x1 : Int32) (x2 : Int32) (x3 : Int32) (h : gz_H) : Option (Int32 × gz_H) := fX9_put_0 a0 x1 x2 x3 h
theorem sX9_put {G : gz_G} {d : Nat} {a0 : Nat} {x1 : Int32} {x2 : Int32} {x3 : Int32} {h : gz_H} {Q : Int32 → gz_H → Prop} (hf : gz_g (fX9_put a0 x1 x2 x3 h) Q) : gz_Cl G mX9_put (d + 2) 0 0 [.ref a0, .int x1, .int x2, .int x3] h (gz_qi Q) := gz_cl_of (lo := [.ref a0, .int x1, .int x2, .int x3, .retAddr 0]) (by decide) rfl rfl (Nat.le_of_ble_eq_true rfl) (sX9_put_0 a0 x1 x2 x3 h hf)
theorem dX9_here_0 : decode cX9_here 0 = .ok (.aload_n 0, 1) := by decide +kernel
theorem dX9_here_1 : decode cX9_here 1 = .ok (.getfield 34, 3) := by decide +kernel
theorem dX9_here_4 : decode cX9_here 4 = .ok (.aload_n 0, 1) := by decide +kernel
theorem dX9_here_5 : decode cX9_here 5 = .ok (.getfield 106, 3) := by decide +kernel
theorem dX9_here_8 : decode cX9_here 8 = .ok (.aload_n 0, 1) := by decide +kernel
theorem dX9_here_9 : decode cX9_here 9 = .ok (.getfield 109, 3) := by decide +kernel
theorem dX9_here_12 : decode cX9_here 12 = .ok (.iadd, 1) := by decide +kernel
theorem dX9_here_13 : decode cX9_here 13 = .ok (.iaload, 1) := by decide +kernel
theorem dX9_here_14 : decode cX9_here 14 = .ok (.ireturn, 1) := by decide +kernel
def fX9_here_0  (a0 : Nat) (h : gz_H) : Option (Int32 × gz_H) :=
    gz_ck (gz_sh h a0 9 29) <|
    gz_br (h.2.2.2 a0 10) fun r_2 =>
    gz_ck (gz_inb h r_2 10 ((h.2.1 a0 16) + (h.2.1 a0 17))) <|
    some (h.2.1 r_2 ((h.2.1 a0 16) + (h.2.1 a0 17)).toNatClampNeg, h)
set_option maxRecDepth 100000 in
set_option maxHeartbeats 1000000 in
theorem sX9_here_0 {G : gz_G} {d l0 s0 : Nat} {Q : Int32 → gz_H → Prop} (a0 : Nat) (h : gz_H) (hf : gz_g (fX9_here_0  a0 h) Q) : gz_Ok G mX9_here (d + 0, l0, s0, 0, 0) 0 [.ref a0] [] h (gz_qi Q) := by
  unfold fX9_here_0 at hf
  refine gz_aload_n (pc := 0) dX9_here_0 rfl rfl ?_
  refine gz_gk hf (fun c_1 hf => ?_)
  refine gz_gb hf (fun r_2 er_2 hf => ?_)
  refine gz_getR (pc := 1) dX9_here_1 fl_RX9_34 rfl (gz_shs c_1) er_2 ?_
  refine gz_aload_n (pc := 4) dX9_here_4 rfl rfl ?_
  refine gz_getI (pc := 5) dX9_here_5 fl_RX9_106 rfl (gz_shs c_1) ?_
  refine gz_aload_n (pc := 8) dX9_here_8 rfl rfl ?_
  refine gz_getI (pc := 9) dX9_here_9 fl_RX9_109 rfl (gz_shs c_1) ?_
  refine gz_iadd (pc := 12) dX9_here_12 ?_
  refine gz_gk hf (fun c_3 hf => ?_)
  refine gz_iald (pc := 13) dX9_here_13 c_3 ?_
  exact gz_irt (pc := 14) dX9_here_14 rfl rfl hf
def fX9_here (a0 : Nat) (h : gz_H) : Option (Int32 × gz_H) := fX9_here_0 a0 h
theorem sX9_here {G : gz_G} {d : Nat} {a0 : Nat} {h : gz_H} {Q : Int32 → gz_H → Prop} (hf : gz_g (fX9_here a0 h) Q) : gz_Cl G mX9_here (d + 0) 0 0 [.ref a0] h (gz_qi Q) := gz_cl_of (lo := [.ref a0]) (by decide) rfl rfl (Nat.le_of_ble_eq_true rfl) (sX9_here_0 a0 h hf)
theorem dX9_skip_0 : decode cX9_skip 0 = .ok (.aload_n 0, 1) := by decide +kernel
theorem dX9_skip_1 : decode cX9_skip 1 = .ok (.getfield 109, 3) := by decide +kernel
theorem dX9_skip_4 : decode cX9_skip 4 = .ok (.aload_n 0, 1) := by decide +kernel
theorem dX9_skip_5 : decode cX9_skip 5 = .ok (.getfield 112, 3) := by decide +kernel
theorem dX9_skip_8 : decode cX9_skip 8 = .ok (.if_icmp .ge 25, 3) := by decide +kernel
theorem dX9_skip_11 : decode cX9_skip 11 = .ok (.aload_n 0, 1) := by decide +kernel
theorem dX9_skip_12 : decode cX9_skip 12 = .ok (.invokevirtual 115, 3) := by decide +kernel
theorem dX9_skip_15 : decode cX9_skip 15 = .ok (.bipush 32, 2) := by decide +kernel
theorem dX9_skip_17 : decode cX9_skip 17 = .ok (.if_icmp .ne 16, 3) := by decide +kernel
theorem dX9_skip_20 : decode cX9_skip 20 = .ok (.aload_n 0, 1) := by decide +kernel
theorem dX9_skip_21 : decode cX9_skip 21 = .ok (.dup, 1) := by decide +kernel
theorem dX9_skip_22 : decode cX9_skip 22 = .ok (.getfield 109, 3) := by decide +kernel
theorem dX9_skip_25 : decode cX9_skip 25 = .ok (.iconst 1, 1) := by decide +kernel
theorem dX9_skip_26 : decode cX9_skip 26 = .ok (.iadd, 1) := by decide +kernel
theorem dX9_skip_27 : decode cX9_skip 27 = .ok (.putfield 109, 3) := by decide +kernel
theorem dX9_skip_30 : decode cX9_skip 30 = .ok (.goto (-30), 3) := by decide +kernel
theorem dX9_skip_33 : decode cX9_skip 33 = .ok (.return_, 1) := by decide +kernel
def fX9_skip_0  : Nat → Nat → gz_H → Option (Unit × gz_H)
  | 0, _, _ => none
  | n + 1, a0, h =>
    gz_ck (gz_sh h a0 9 29) <|
    if (h.2.1 a0 18) ≤ (h.2.1 a0 17) then (
     some ((), h)
    ) else (
     gz_b2 (fX9_here a0 h) fun y_4 h_3 =>
     if y_4 = (32 : Int32) then (
      gz_ck (gz_sh h_3 a0 9 29) <|
      gz_lt (uI h_3 a0 17 ((h_3.2.1 a0 17) + (1 : Int32))) fun h_7 =>
      fX9_skip_0 n a0 h_7
     ) else (
      some ((), h_3)
     )
    )
set_option maxRecDepth 100000 in
set_option maxHeartbeats 1000000 in
theorem sX9_skip_0 {G : gz_G} {d l0 s0 : Nat} {Q : Unit → gz_H → Prop} : ∀ (n : Nat) (a0 : Nat) (h : gz_H), gz_g (fX9_skip_0  n a0 h) Q → gz_Ok G mX9_skip (d + 1, l0, s0, 0, 0) 0 [.ref a0] [] h (gz_qu Q) := by
  intro n
  induction n with
  | zero => intro a0 h hf; exact False.elim hf
  | succ n ih =>
    intro a0 h hf
    rw [fX9_skip_0] at hf
    refine gz_aload_n (pc := 0) dX9_skip_0 rfl rfl ?_
    refine gz_gk hf (fun c_1 hf => ?_)
    refine gz_getI (pc := 1) dX9_skip_1 fl_RX9_109 rfl (gz_shs c_1) ?_
    refine gz_aload_n (pc := 4) dX9_skip_4 rfl rfl ?_
    refine gz_getI (pc := 5) dX9_skip_5 fl_RX9_112 rfl (gz_shs c_1) ?_
    refine gz_icmp_ge (tgt := 33) (pc := 8) dX9_skip_8 rfl (fun c_2 => ?_) (fun c_2 => ?_)
    · have hf := gz_gT hf c_2
      exact gz_uret (pc := 33) dX9_skip_33 rfl hf
    · have hf := gz_gF hf c_2
      refine gz_aload_n (pc := 11) dX9_skip_11 rfl rfl ?_
      refine gz_cVI (av := []) (st := []) (pc := 12) dX9_skip_12 kl_RX9_115 rfl (gz_shs c_1) rfl rfl (Nat.le_of_ble_eq_true rfl) (by show d + 0 + 0 + 1 ≤ d + 1; omega) (sX9_here (d := d + 0) (gz_gc hf)) (fun y_4 h_3 hf => ?_)
      refine gz_bipush (v := (32 : Int32)) (pc := 15) dX9_skip_15 rfl ?_
      refine gz_icmp_ne (tgt := 33) (pc := 17) dX9_skip_17 rfl (fun c_5 => ?_) (fun c_5 => ?_)
      · have hf := gz_gF hf c_5
        exact gz_uret (pc := 33) dX9_skip_33 rfl hf
      · have hf := gz_gT hf c_5
        refine gz_aload_n (pc := 20) dX9_skip_20 rfl rfl ?_
        refine gz_dup (pc := 21) dX9_skip_21 rfl ?_
        refine gz_gk hf (fun c_6 hf => ?_)
        refine gz_getI (pc := 22) dX9_skip_22 fl_RX9_109 rfl (gz_shs c_6) ?_
        refine gz_iconst (v := (1 : Int32)) (pc := 25) dX9_skip_25 rfl ?_
        refine gz_iadd (pc := 26) dX9_skip_26 ?_
        refine gz_putI (pc := 27) dX9_skip_27 fw_X9_skip_109 rfl rfl rfl (gz_shs c_6) ?_
        refine gz_nmH (fun h_7 eh_7 => ?_)
        have hf := gz_gl eh_7 hf
        refine gz_goto (tgt := 0) (pc := 30) dX9_skip_30 rfl ?_
        exact ih a0 h_7 hf
def fX9_skip (a0 : Nat) (h : gz_H) : Option (Unit × gz_H) := fX9_skip_0 gz_fu a0 h
theorem sX9_skip {G : gz_G} {d : Nat} {a0 : Nat} {h : gz_H} {Q : Unit → gz_H → Prop} (hf : gz_g (fX9_skip a0 h) Q) : gz_Cl G mX9_skip (d + 1) 0 0 [.ref a0] h (gz_qu Q) := gz_cl_of (lo := [.ref a0]) (by decide) rfl rfl (Nat.le_of_ble_eq_true rfl) (sX9_skip_0 gz_fu a0 h hf)
theorem dX9_isFigure_0 : decode cX9_isFigure 0 = .ok (.aload_n 0, 1) := by decide +kernel
theorem dX9_isFigure_1 : decode cX9_isFigure 1 = .ok (.getfield 109, 3) := by decide +kernel
theorem dX9_isFigure_4 : decode cX9_isFigure 4 = .ok (.aload_n 0, 1) := by decide +kernel
theorem dX9_isFigure_5 : decode cX9_isFigure 5 = .ok (.getfield 112, 3) := by decide +kernel
theorem dX9_isFigure_8 : decode cX9_isFigure 8 = .ok (.if_icmp .ge 24, 3) := by decide +kernel
theorem dX9_isFigure_11 : decode cX9_isFigure 11 = .ok (.aload_n 0, 1) := by decide +kernel
theorem dX9_isFigure_12 : decode cX9_isFigure 12 = .ok (.invokevirtual 115, 3) := by decide +kernel
theorem dX9_isFigure_15 : decode cX9_isFigure 15 = .ok (.i2l, 1) := by decide +kernel
theorem dX9_isFigure_16 : decode cX9_isFigure 16 = .ok (.ldc2_w 119, 3) := by decide +kernel
theorem dX9_isFigure_19 : decode cX9_isFigure 19 = .ok (.ldc2_w 121, 3) := by decide +kernel
theorem dX9_isFigure_22 : decode cX9_isFigure 22 = .ok (.invokestatic 74, 3) := by decide +kernel
theorem dX9_isFigure_25 : decode cX9_isFigure 25 = .ok (.ifCond .eq 7, 3) := by decide +kernel
theorem dX9_isFigure_28 : decode cX9_isFigure 28 = .ok (.iconst 1, 1) := by decide +kernel
theorem dX9_isFigure_29 : decode cX9_isFigure 29 = .ok (.goto 4, 3) := by decide +kernel
theorem dX9_isFigure_32 : decode cX9_isFigure 32 = .ok (.iconst 0, 1) := by decide +kernel
theorem dX9_isFigure_33 : decode cX9_isFigure 33 = .ok (.ireturn, 1) := by decide +kernel
def fX9_isFigure_0  (a0 : Nat) (h : gz_H) : Option (Int32 × gz_H) :=
    gz_ck (gz_sh h a0 9 29) <|
    if (h.2.1 a0 18) ≤ (h.2.1 a0 17) then (
     some ((0 : Int32), h)
    ) else (
     gz_b2 (fX9_here a0 h) fun y_4 h_3 =>
     gz_b2 (fX9_in y_4.toInt64 (48 : Int64) (57 : Int64) h_3) fun y_6 h_5 =>
     if y_6 = 0 then (
      some ((0 : Int32), h_5)
     ) else (
      some ((1 : Int32), h_5)
     )
    )
set_option maxRecDepth 100000 in
set_option maxHeartbeats 1000000 in
theorem sX9_isFigure_0 {G : gz_G} {d l0 s0 : Nat} {Q : Int32 → gz_H → Prop} (a0 : Nat) (h : gz_H) (hf : gz_g (fX9_isFigure_0  a0 h) Q) : gz_Ok G mX9_isFigure (d + 1, l0, s0, 0, 0) 0 [.ref a0] [] h (gz_qi Q) := by
  unfold fX9_isFigure_0 at hf
  refine gz_aload_n (pc := 0) dX9_isFigure_0 rfl rfl ?_
  refine gz_gk hf (fun c_1 hf => ?_)
  refine gz_getI (pc := 1) dX9_isFigure_1 fl_RX9_109 rfl (gz_shs c_1) ?_
  refine gz_aload_n (pc := 4) dX9_isFigure_4 rfl rfl ?_
  refine gz_getI (pc := 5) dX9_isFigure_5 fl_RX9_112 rfl (gz_shs c_1) ?_
  refine gz_icmp_ge (tgt := 32) (pc := 8) dX9_isFigure_8 rfl (fun c_2 => ?_) (fun c_2 => ?_)
  · have hf := gz_gT hf c_2
    refine gz_iconst (v := (0 : Int32)) (pc := 32) dX9_isFigure_32 rfl ?_
    exact gz_irt (pc := 33) dX9_isFigure_33 rfl rfl hf
  · have hf := gz_gF hf c_2
    refine gz_aload_n (pc := 11) dX9_isFigure_11 rfl rfl ?_
    refine gz_cVI (av := []) (st := []) (pc := 12) dX9_isFigure_12 kl_RX9_115 rfl (gz_shs c_1) rfl rfl (Nat.le_of_ble_eq_true rfl) (by show d + 0 + 0 + 1 ≤ d + 1; omega) (sX9_here (d := d + 0) (gz_gc hf)) (fun y_4 h_3 hf => ?_)
    refine gz_i2l (pc := 15) dX9_isFigure_15 ?_
    refine gz_ldc2 (v := (48 : Int64)) (pc := 16) dX9_isFigure_16 kc_RX9_119 ?_
    refine gz_ldc2 (v := (57 : Int64)) (pc := 19) dX9_isFigure_19 kc_RX9_121 ?_
    refine gz_cSI (av := [.long y_4.toInt64, .long (48 : Int64), .long (57 : Int64)]) (st := []) (pc := 22) dX9_isFigure_22 kl_RX9_74 rfl rfl (Nat.le_of_ble_eq_true rfl) (by show d + 0 + 0 + 1 ≤ d + 1; omega) (sX9_in (d := d + 0) (gz_gc hf)) (fun y_6 h_5 hf => ?_)
    refine gz_if_eq (tgt := 32) (pc := 25) dX9_isFigure_25 rfl (fun c_7 => ?_) (fun c_7 => ?_)
    · have hf := gz_gT hf c_7
      refine gz_iconst (v := (0 : Int32)) (pc := 32) dX9_isFigure_32 rfl ?_
      exact gz_irt (pc := 33) dX9_isFigure_33 rfl rfl hf
    · have hf := gz_gF hf c_7
      refine gz_iconst (v := (1 : Int32)) (pc := 28) dX9_isFigure_28 rfl ?_
      refine gz_goto (tgt := 33) (pc := 29) dX9_isFigure_29 rfl ?_
      exact gz_irt (pc := 33) dX9_isFigure_33 rfl rfl hf
def fX9_isFigure (a0 : Nat) (h : gz_H) : Option (Int32 × gz_H) := fX9_isFigure_0 a0 h
theorem sX9_isFigure {G : gz_G} {d : Nat} {a0 : Nat} {h : gz_H} {Q : Int32 → gz_H → Prop} (hf : gz_g (fX9_isFigure a0 h) Q) : gz_Cl G mX9_isFigure (d + 1) 0 0 [.ref a0] h (gz_qi Q) := gz_cl_of (lo := [.ref a0]) (by decide) rfl rfl (Nat.le_of_ble_eq_true rfl) (sX9_isFigure_0 a0 h hf)
