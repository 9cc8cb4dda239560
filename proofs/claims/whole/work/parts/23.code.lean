theorem dX9_kinds_0 : decode cX9_kinds 0 = .ok (.aload_n 0, 1) := by decide +kernel
theorem dX9_kinds_1 : decode cX9_kinds 1 = .ok (.iload_n 1, 1) := by decide +kernel
theorem dX9_kinds_2 : decode cX9_kinds 2 = .ok (.invokevirtual 196, 3) := by decide +kernel
theorem dX9_kinds_5 : decode cX9_kinds 5 = .ok (.ifCond .eq 10, 3) := by decide +kernel
theorem dX9_kinds_8 : decode cX9_kinds 8 = .ok (.iload_n 2, 1) := by decide +kernel
theorem dX9_kinds_9 : decode cX9_kinds 9 = .ok (.invokestatic 80, 3) := by decide +kernel
theorem dX9_kinds_12 : decode cX9_kinds 12 = .ok (.ifCond .ne 5, 3) := by decide +kernel
theorem dX9_kinds_15 : decode cX9_kinds 15 = .ok (.iconst (-1), 1) := by decide +kernel
theorem dX9_kinds_16 : decode cX9_kinds 16 = .ok (.ireturn, 1) := by decide +kernel
theorem dX9_kinds_17 : decode cX9_kinds 17 = .ok (.aload_n 0, 1) := by decide +kernel
theorem dX9_kinds_18 : decode cX9_kinds 18 = .ok (.iload_n 2, 1) := by decide +kernel
theorem dX9_kinds_19 : decode cX9_kinds 19 = .ok (.invokevirtual 287, 3) := by decide +kernel
theorem dX9_kinds_22 : decode cX9_kinds 22 = .ok (.istore_n 3, 1) := by decide +kernel
theorem dX9_kinds_23 : decode cX9_kinds 23 = .ok (.iload_n 3, 1) := by decide +kernel
theorem dX9_kinds_24 : decode cX9_kinds 24 = .ok (.ifCond .eq 5, 3) := by decide +kernel
theorem dX9_kinds_27 : decode cX9_kinds 27 = .ok (.iload_n 3, 1) := by decide +kernel
theorem dX9_kinds_28 : decode cX9_kinds 28 = .ok (.ireturn, 1) := by decide +kernel
theorem dX9_kinds_29 : decode cX9_kinds 29 = .ok (.iconst 0, 1) := by decide +kernel
theorem dX9_kinds_30 : decode cX9_kinds 30 = .ok (.istore 4, 2) := by decide +kernel
theorem dX9_kinds_32 : decode cX9_kinds 32 = .ok (.aload_n 0, 1) := by decide +kernel
theorem dX9_kinds_33 : decode cX9_kinds 33 = .ok (.iload_n 1, 1) := by decide +kernel
theorem dX9_kinds_34 : decode cX9_kinds 34 = .ok (.invokevirtual 173, 3) := by decide +kernel
theorem dX9_kinds_37 : decode cX9_kinds 37 = .ok (.iconst 0, 1) := by decide +kernel
theorem dX9_kinds_38 : decode cX9_kinds 38 = .ok (.istore 5, 2) := by decide +kernel
theorem dX9_kinds_40 : decode cX9_kinds 40 = .ok (.iload 5, 2) := by decide +kernel
theorem dX9_kinds_42 : decode cX9_kinds 42 = .ok (.bipush 6, 2) := by decide +kernel
theorem dX9_kinds_44 : decode cX9_kinds 44 = .ok (.if_icmp .ge 38, 3) := by decide +kernel
theorem dX9_kinds_47 : decode cX9_kinds 47 = .ok (.iload 4, 2) := by decide +kernel
theorem dX9_kinds_49 : decode cX9_kinds 49 = .ok (.aload_n 0, 1) := by decide +kernel
theorem dX9_kinds_50 : decode cX9_kinds 50 = .ok (.iload 5, 2) := by decide +kernel
theorem dX9_kinds_52 : decode cX9_kinds 52 = .ok (.aload_n 0, 1) := by decide +kernel
theorem dX9_kinds_53 : decode cX9_kinds 53 = .ok (.getfield 19, 3) := by decide +kernel
theorem dX9_kinds_56 : decode cX9_kinds 56 = .ok (.iload_n 1, 1) := by decide +kernel
theorem dX9_kinds_57 : decode cX9_kinds 57 = .ok (.iaload, 1) := by decide +kernel
theorem dX9_kinds_58 : decode cX9_kinds 58 = .ok (.iload_n 2, 1) := by decide +kernel
theorem dX9_kinds_59 : decode cX9_kinds 59 = .ok (.invokevirtual 293, 3) := by decide +kernel
theorem dX9_kinds_62 : decode cX9_kinds 62 = .ok (.ifCond .eq 10, 3) := by decide +kernel
theorem dX9_kinds_65 : decode cX9_kinds 65 = .ok (.iconst 1, 1) := by decide +kernel
theorem dX9_kinds_66 : decode cX9_kinds 66 = .ok (.iload 5, 2) := by decide +kernel
theorem dX9_kinds_68 : decode cX9_kinds 68 = .ok (.ishl, 1) := by decide +kernel
theorem dX9_kinds_69 : decode cX9_kinds 69 = .ok (.goto 4, 3) := by decide +kernel
theorem dX9_kinds_72 : decode cX9_kinds 72 = .ok (.iconst 0, 1) := by decide +kernel
theorem dX9_kinds_73 : decode cX9_kinds 73 = .ok (.ior, 1) := by decide +kernel
theorem dX9_kinds_74 : decode cX9_kinds 74 = .ok (.istore 4, 2) := by decide +kernel
theorem dX9_kinds_76 : decode cX9_kinds 76 = .ok (.iinc 5 1, 3) := by decide +kernel
theorem dX9_kinds_79 : decode cX9_kinds 79 = .ok (.goto (-39), 3) := by decide +kernel
theorem dX9_kinds_82 : decode cX9_kinds 82 = .ok (.iload 4, 2) := by decide +kernel
theorem dX9_kinds_84 : decode cX9_kinds 84 = .ok (.ireturn, 1) := by decide +kernel
def fX9_kinds_73 (k40 : Nat → Int32 → Int32 → Int32 → Int32 → gz_H → Option (Int32 × gz_H)) (a0 : Nat) (x1 : Int32) (x2 : Int32) (x5 : Int32) (w0 : Int32) (w1 : Int32) (h : gz_H) : Option (Int32 × gz_H) :=
    k40 a0 x1 x2 (w0 ||| w1) (x5 + 1) h
set_option maxRecDepth 100000 in
set_option maxHeartbeats 1000000 in
theorem sX9_kinds_73 {G : gz_G} {d l0 s0 : Nat} {Q : Int32 → gz_H → Prop} {k40 : Nat → Int32 → Int32 → Int32 → Int32 → gz_H → Option (Int32 × gz_H)} (hk40 : ∀ (a0 : Nat) (x1 : Int32) (x2 : Int32) (x4 : Int32) (x5 : Int32) (h : gz_H), gz_g (k40 a0 x1 x2 x4 x5 h) Q → gz_Ok G mX9_kinds (d + 3, l0, s0, 0, 0) 40 [.ref a0, .int x1, .int x2, .retAddr 0, .int x4, .int x5] [] h (gz_qi Q)) (a0 : Nat) (x1 : Int32) (x2 : Int32) (x5 : Int32) (w0 : Int32) (w1 : Int32) (h : gz_H) (hf : gz_g (fX9_kinds_73 k40 a0 x1 x2 x5 w0 w1 h) Q) : gz_Ok G mX9_kinds (d + 3, l0, s0, 0, 0) 73 [.ref a0, .int x1, .int x2, .retAddr 0, .retAddr 0, .int x5] [.int w1, .int w0] h (gz_qi Q) := by
  unfold fX9_kinds_73 at hf
  refine gz_ior (pc := 73) dX9_kinds_73 ?_
  refine gz_istore (lv := [.ref a0, .int x1, .int x2, .retAddr 0, .int (w0 ||| w1), .int x5]) (pc := 74) dX9_kinds_74 (by decide) rfl ?_
  refine gz_iinc (v := x5 + 1) (lv := [.ref a0, .int x1, .int x2, .retAddr 0, .int (w0 ||| w1), .int (x5 + 1)]) (pc := 76) dX9_kinds_76 rfl rfl (by decide) rfl ?_
  refine gz_goto (tgt := 40) (pc := 79) dX9_kinds_79 rfl ?_
  exact hk40 a0 x1 x2 (w0 ||| w1) (x5 + 1) h hf
def fX9_kinds_40  : Nat → Nat → Int32 → Int32 → Int32 → Int32 → gz_H → Option (Int32 × gz_H)
  | 0, _, _, _, _, _, _ => none
  | n + 1, a0, x1, x2, x4, x5, h =>
    if (6 : Int32) ≤ x5 then (
     some (x4, h)
    ) else (
     gz_ck (gz_sh h a0 9 29) <|
     gz_br (h.2.2.2 a0 5) fun r_3 =>
     gz_ck (gz_inb h r_3 10 x1) <|
     gz_b2 (fX9_isSo a0 x5 (h.2.1 r_3 x1.toNatClampNeg) x2 h) fun y_6 h_5 =>
     if y_6 = 0 then (
      fX9_kinds_73 (fun z0 z1 z2 z3 z4 zh => fX9_kinds_40 n z0 z1 z2 z3 z4 zh) a0 x1 x2 x5 x4 (0 : Int32) h_5
     ) else (
      fX9_kinds_73 (fun z0 z1 z2 z3 z4 zh => fX9_kinds_40 n z0 z1 z2 z3 z4 zh) a0 x1 x2 x5 x4 ((1 : Int32) <<< (x5 &&& 31)) h_5
     )
    )
set_option maxRecDepth 100000 in
set_option maxHeartbeats 1000000 in
theorem sX9_kinds_40 {G : gz_G} {d l0 s0 : Nat} {Q : Int32 → gz_H → Prop} : ∀ (n : Nat) (a0 : Nat) (x1 : Int32) (x2 : Int32) (x4 : Int32) (x5 : Int32) (h : gz_H), gz_g (fX9_kinds_40  n a0 x1 x2 x4 x5 h) Q → gz_Ok G mX9_kinds (d + 3, l0, s0, 0, 0) 40 [.ref a0, .int x1, .int x2, .retAddr 0, .int x4, .int x5] [] h (gz_qi Q) := by
  intro n
  induction n with
  | zero => intro a0 x1 x2 x4 x5 h hf; exact False.elim hf
  | succ n ih =>
    intro a0 x1 x2 x4 x5 h hf
    rw [fX9_kinds_40] at hf
    refine gz_iload (pc := 40) dX9_kinds_40 rfl ?_
    refine gz_bipush (v := (6 : Int32)) (pc := 42) dX9_kinds_42 rfl ?_
    refine gz_icmp_ge (tgt := 82) (pc := 44) dX9_kinds_44 rfl (fun c_1 => ?_) (fun c_1 => ?_)
    · have hf := gz_gT hf c_1
      refine gz_iload (pc := 82) dX9_kinds_82 rfl ?_
      exact gz_irt (pc := 84) dX9_kinds_84 rfl rfl hf
    · have hf := gz_gF hf c_1
      refine gz_iload (pc := 47) dX9_kinds_47 rfl ?_
      refine gz_aload_n (pc := 49) dX9_kinds_49 rfl rfl ?_
      refine gz_iload (pc := 50) dX9_kinds_50 rfl ?_
      refine gz_aload_n (pc := 52) dX9_kinds_52 rfl rfl ?_
      refine gz_gk hf (fun c_2 hf => ?_)
      refine gz_gb hf (fun r_3 er_3 hf => ?_)
      refine gz_getR (pc := 53) dX9_kinds_53 fl_RX9_19 rfl (gz_shs c_2) er_3 ?_
      refine gz_iload_n (pc := 56) dX9_kinds_56 rfl rfl ?_
      refine gz_gk hf (fun c_4 hf => ?_)
      refine gz_iald (pc := 57) dX9_kinds_57 c_4 ?_
      refine gz_iload_n (pc := 58) dX9_kinds_58 rfl rfl ?_
      refine gz_cVI (av := [.int x5, .int (h.2.1 r_3 x1.toNatClampNeg), .int x2]) (st := [.int x4]) (pc := 59) dX9_kinds_59 kl_RX9_293 rfl (gz_shs c_2) rfl rfl (Nat.le_of_ble_eq_true rfl) (by show d + 0 + 2 + 1 ≤ d + 3; omega) (sX9_isSo (d := d + 0) (gz_gc hf)) (fun y_6 h_5 hf => ?_)
      refine gz_if_eq (tgt := 72) (pc := 62) dX9_kinds_62 rfl (fun c_7 => ?_) (fun c_7 => ?_)
      · have hf := gz_gT hf c_7
        refine gz_iconst (v := (0 : Int32)) (pc := 72) dX9_kinds_72 rfl ?_
        refine gz_fg (lv := [.ref a0, .int x1, .int x2, .retAddr 0, .retAddr 0, .int x5]) ⟨Or.inr rfl, ⟨Or.inr rfl, ⟨Or.inr rfl, ⟨Or.inl rfl, ⟨Or.inl rfl, ⟨Or.inr rfl, trivial⟩⟩⟩⟩⟩⟩ ?_
        exact sX9_kinds_73 ih a0 x1 x2 x5 x4 (0 : Int32) h_5 hf
      · have hf := gz_gF hf c_7
        refine gz_iconst (v := (1 : Int32)) (pc := 65) dX9_kinds_65 rfl ?_
        refine gz_iload (pc := 66) dX9_kinds_66 rfl ?_
        refine gz_ishl (pc := 68) dX9_kinds_68 ?_
        refine gz_goto (tgt := 73) (pc := 69) dX9_kinds_69 rfl ?_
        refine gz_fg (lv := [.ref a0, .int x1, .int x2, .retAddr 0, .retAddr 0, .int x5]) ⟨Or.inr rfl, ⟨Or.inr rfl, ⟨Or.inr rfl, ⟨Or.inl rfl, ⟨Or.inl rfl, ⟨Or.inr rfl, trivial⟩⟩⟩⟩⟩⟩ ?_
        exact sX9_kinds_73 ih a0 x1 x2 x5 x4 ((1 : Int32) <<< (x5 &&& 31)) h_5 hf
def fX9_kinds_0  (a0 : Nat) (x1 : Int32) (x2 : Int32) (h : gz_H) : Option (Int32 × gz_H) :=
    gz_ck (gz_sh h a0 9 29) <|
    gz_b2 (fX9_isGoose a0 x1 h) fun y_2 h_1 =>
    if y_2 = 0 then (
     some ((-1 : Int32), h_1)
    ) else (
     gz_b2 (fX9_isRow x2 h_1) fun y_6 h_5 =>
     if y_6 = 0 then (
      some ((-1 : Int32), h_5)
     ) else (
      gz_ck (gz_sh h_5 a0 9 29) <|
      gz_b2 (fX9_noPairs a0 x2 h_5) fun y_9 h_8 =>
      if y_9 = 0 then (
       gz_ck (gz_sh h_8 a0 9 29) <|
       gz_b2 (fX9_layHeld a0 x1 h_8) fun _ h_12 =>
       fX9_kinds_40 gz_fu a0 x1 x2 (0 : Int32) (0 : Int32) h_12
      ) else (
       some (y_9, h_8)
      )
     )
    )
set_option maxRecDepth 100000 in
set_option maxHeartbeats 1000000 in
theorem sX9_kinds_0 {G : gz_G} {d l0 s0 : Nat} {Q : Int32 → gz_H → Prop} (a0 : Nat) (x1 : Int32) (x2 : Int32) (h : gz_H) (hf : gz_g (fX9_kinds_0  a0 x1 x2 h) Q) : gz_Ok G mX9_kinds (d + 3, l0, s0, 0, 0) 0 [.ref a0, .int x1, .int x2, .retAddr 0, .retAddr 0, .retAddr 0] [] h (gz_qi Q) := by
  unfold fX9_kinds_0 at hf
  refine gz_aload_n (pc := 0) dX9_kinds_0 rfl rfl ?_
  refine gz_iload_n (pc := 1) dX9_kinds_1 rfl rfl ?_
  refine gz_gk hf (fun c_3 hf => ?_)
  refine gz_cVI (av := [.int x1]) (st := []) (pc := 2) dX9_kinds_2 kl_RX9_196 rfl (gz_shs c_3) rfl rfl (Nat.le_of_ble_eq_true rfl) (by show d + 1 + 1 + 1 ≤ d + 3; omega) (sX9_isGoose (d := d + 1) (gz_gc hf)) (fun y_2 h_1 hf => ?_)
  refine gz_if_eq (tgt := 15) (pc := 5) dX9_kinds_5 rfl (fun c_4 => ?_) (fun c_4 => ?_)
  · have hf := gz_gT hf c_4
    refine gz_iconst (v := (-1 : Int32)) (pc := 15) dX9_kinds_15 rfl ?_
    exact gz_irt (pc := 16) dX9_kinds_16 rfl rfl hf
  · have hf := gz_gF hf c_4
    refine gz_iload_n (pc := 8) dX9_kinds_8 rfl rfl ?_
    refine gz_cSI (av := [.int x2]) (st := []) (pc := 9) dX9_kinds_9 kl_RX9_80 rfl rfl (Nat.le_of_ble_eq_true rfl) (by show d + 1 + 1 + 1 ≤ d + 3; omega) (sX9_isRow (d := d + 1) (gz_gc hf)) (fun y_6 h_5 hf => ?_)
    refine gz_if_ne (tgt := 17) (pc := 12) dX9_kinds_12 rfl (fun c_7 => ?_) (fun c_7 => ?_)
    · have hf := gz_gF hf c_7
      refine gz_aload_n (pc := 17) dX9_kinds_17 rfl rfl ?_
      refine gz_iload_n (pc := 18) dX9_kinds_18 rfl rfl ?_
      refine gz_gk hf (fun c_10 hf => ?_)
      refine gz_cVI (av := [.int x2]) (st := []) (pc := 19) dX9_kinds_19 kl_RX9_287 rfl (gz_shs c_10) rfl rfl (Nat.le_of_ble_eq_true rfl) (by show d + 0 + 2 + 1 ≤ d + 3; omega) (sX9_noPairs (d := d + 0) (gz_gc hf)) (fun y_9 h_8 hf => ?_)
      refine gz_istore_n (lv := [.ref a0, .int x1, .int x2, .int y_9, .retAddr 0, .retAddr 0]) (pc := 22) dX9_kinds_22 rfl (by decide) rfl ?_
      refine gz_iload_n (pc := 23) dX9_kinds_23 rfl rfl ?_
      refine gz_if_eq (tgt := 29) (pc := 24) dX9_kinds_24 rfl (fun c_11 => ?_) (fun c_11 => ?_)
      · have hf := gz_gT hf c_11
        refine gz_iconst (v := (0 : Int32)) (pc := 29) dX9_kinds_29 rfl ?_
        refine gz_istore (lv := [.ref a0, .int x1, .int x2, .int y_9, .int (0 : Int32), .retAddr 0]) (pc := 30) dX9_kinds_30 (by decide) rfl ?_
        refine gz_aload_n (pc := 32) dX9_kinds_32 rfl rfl ?_
        refine gz_iload_n (pc := 33) dX9_kinds_33 rfl rfl ?_
        refine gz_gk hf (fun c_14 hf => ?_)
        refine gz_cVV (av := [.int x1]) (st := []) (pc := 34) dX9_kinds_34 kl_RX9_173 rfl (gz_shs c_14) rfl rfl (Nat.le_of_ble_eq_true rfl) (by show d + 1 + 1 + 1 ≤ d + 3; omega) (sX9_layHeld (d := d + 1) (gz_gc hf)) (fun _ h_12 hf => ?_)
        refine gz_iconst (v := (0 : Int32)) (pc := 37) dX9_kinds_37 rfl ?_
        refine gz_istore (lv := [.ref a0, .int x1, .int x2, .int y_9, .int (0 : Int32), .int (0 : Int32)]) (pc := 38) dX9_kinds_38 (by decide) rfl ?_
        refine gz_fg (lv := [.ref a0, .int x1, .int x2, .retAddr 0, .int (0 : Int32), .int (0 : Int32)]) ⟨Or.inr rfl, ⟨Or.inr rfl, ⟨Or.inr rfl, ⟨Or.inl rfl, ⟨Or.inr rfl, ⟨Or.inr rfl, trivial⟩⟩⟩⟩⟩⟩ ?_
        exact sX9_kinds_40 gz_fu a0 x1 x2 (0 : Int32) (0 : Int32) h_12 hf
      · have hf := gz_gF hf c_11
        refine gz_iload_n (pc := 27) dX9_kinds_27 rfl rfl ?_
        exact gz_irt (pc := 28) dX9_kinds_28 rfl rfl hf
    · have hf := gz_gT hf c_7
      refine gz_iconst (v := (-1 : Int32)) (pc := 15) dX9_kinds_15 rfl ?_
      exact gz_irt (pc := 16) dX9_kinds_16 rfl rfl hf
def fX9_kinds (a0 : Nat) (x1 : Int32) (x2 : Int32) (h : gz_H) : Option (Int32 × gz_H) := fX9_kinds_0 a0 x1 x2 h
theorem sX9_kinds {G : gz_G} {d : Nat} {a0 : Nat} {x1 : Int32} {x2 : Int32} {h : gz_H} {Q : Int32 → gz_H → Prop} (hf : gz_g (fX9_kinds a0 x1 x2 h) Q) : gz_Cl G mX9_kinds (d + 3) 0 0 [.ref a0, .int x1, .int x2] h (gz_qi Q) := gz_cl_of (lo := [.ref a0, .int x1, .int x2, .retAddr 0, .retAddr 0, .retAddr 0]) (by decide) rfl rfl (Nat.le_of_ble_eq_true rfl) (sX9_kinds_0 a0 x1 x2 h hf)
theorem dX9_waysOf_0 : decode cX9_waysOf 0 = .ok (.iload_n 1, 1) := by decide +kernel
theorem dX9_waysOf_1 : decode cX9_waysOf 1 = .ok (.aload_n 0, 1) := by decide +kernel
theorem dX9_waysOf_2 : decode cX9_waysOf 2 = .ok (.getfield 7, 3) := by decide +kernel
theorem dX9_waysOf_5 : decode cX9_waysOf 5 = .ok (.iconst 1, 1) := by decide +kernel
theorem dX9_waysOf_6 : decode cX9_waysOf 6 = .ok (.iaload, 1) := by decide +kernel
theorem dX9_waysOf_7 : decode cX9_waysOf 7 = .ok (.iand, 1) := by decide +kernel
theorem dX9_waysOf_8 : decode cX9_waysOf 8 = .ok (.ifCond .ne 7, 3) := by decide +kernel
theorem dX9_waysOf_11 : decode cX9_waysOf 11 = .ok (.lconst 1, 1) := by decide +kernel
theorem dX9_waysOf_12 : decode cX9_waysOf 12 = .ok (.goto 4, 3) := by decide +kernel
theorem dX9_waysOf_15 : decode cX9_waysOf 15 = .ok (.lconst 0, 1) := by decide +kernel
theorem dX9_waysOf_16 : decode cX9_waysOf 16 = .ok (.lstore_n 3, 1) := by decide +kernel
theorem dX9_waysOf_17 : decode cX9_waysOf 17 = .ok (.iconst 0, 1) := by decide +kernel
theorem dX9_waysOf_18 : decode cX9_waysOf 18 = .ok (.istore 5, 2) := by decide +kernel
theorem dX9_waysOf_20 : decode cX9_waysOf 20 = .ok (.iload 5, 2) := by decide +kernel
theorem dX9_waysOf_22 : decode cX9_waysOf 22 = .ok (.aload_n 0, 1) := by decide +kernel
theorem dX9_waysOf_23 : decode cX9_waysOf 23 = .ok (.getfield 158, 3) := by decide +kernel
theorem dX9_waysOf_26 : decode cX9_waysOf 26 = .ok (.if_icmp .ge 44, 3) := by decide +kernel
theorem dX9_waysOf_29 : decode cX9_waysOf 29 = .ok (.lload_n 3, 1) := by decide +kernel
theorem dX9_waysOf_30 : decode cX9_waysOf 30 = .ok (.aload_n 0, 1) := by decide +kernel
theorem dX9_waysOf_31 : decode cX9_waysOf 31 = .ok (.iload 5, 2) := by decide +kernel
theorem dX9_waysOf_33 : decode cX9_waysOf 33 = .ok (.invokevirtual 177, 3) := by decide +kernel
theorem dX9_waysOf_36 : decode cX9_waysOf 36 = .ok (.ifCond .eq 7, 3) := by decide +kernel
theorem dX9_waysOf_39 : decode cX9_waysOf 39 = .ok (.lconst 1, 1) := by decide +kernel
theorem dX9_waysOf_40 : decode cX9_waysOf 40 = .ok (.goto 22, 3) := by decide +kernel
theorem dX9_waysOf_43 : decode cX9_waysOf 43 = .ok (.iload_n 1, 1) := by decide +kernel
theorem dX9_waysOf_44 : decode cX9_waysOf 44 = .ok (.iload 5, 2) := by decide +kernel
theorem dX9_waysOf_46 : decode cX9_waysOf 46 = .ok (.invokestatic 142, 3) := by decide +kernel
theorem dX9_waysOf_49 : decode cX9_waysOf 49 = .ok (.ifCond .eq 8, 3) := by decide +kernel
theorem dX9_waysOf_52 : decode cX9_waysOf 52 = .ok (.iload_n 2, 1) := by decide +kernel
theorem dX9_waysOf_53 : decode cX9_waysOf 53 = .ok (.i2l, 1) := by decide +kernel
theorem dX9_waysOf_54 : decode cX9_waysOf 54 = .ok (.goto 8, 3) := by decide +kernel
theorem dX9_waysOf_57 : decode cX9_waysOf 57 = .ok (.bipush 12, 2) := by decide +kernel
theorem dX9_waysOf_59 : decode cX9_waysOf 59 = .ok (.iload_n 2, 1) := by decide +kernel
theorem dX9_waysOf_60 : decode cX9_waysOf 60 = .ok (.isub, 1) := by decide +kernel
theorem dX9_waysOf_61 : decode cX9_waysOf 61 = .ok (.i2l, 1) := by decide +kernel
theorem dX9_waysOf_62 : decode cX9_waysOf 62 = .ok (.lmul, 1) := by decide +kernel
theorem dX9_waysOf_63 : decode cX9_waysOf 63 = .ok (.lstore_n 3, 1) := by decide +kernel
theorem dX9_waysOf_64 : decode cX9_waysOf 64 = .ok (.iinc 5 1, 3) := by decide +kernel
theorem dX9_waysOf_67 : decode cX9_waysOf 67 = .ok (.goto (-47), 3) := by decide +kernel
theorem dX9_waysOf_70 : decode cX9_waysOf 70 = .ok (.lload_n 3, 1) := by decide +kernel
theorem dX9_waysOf_71 : decode cX9_waysOf 71 = .ok (.lreturn, 1) := by decide +kernel
def fX9_waysOf_62 (k20 : Nat → Int32 → Int32 → Int64 → Int32 → gz_H → Option (Int64 × gz_H)) (a0 : Nat) (x1 : Int32) (x2 : Int32) (x5 : Int32) (w0 : Int64) (w1 : Int64) (h : gz_H) : Option (Int64 × gz_H) :=
    k20 a0 x1 x2 (w0 * w1) (x5 + 1) h
set_option maxRecDepth 100000 in
set_option maxHeartbeats 1000000 in
theorem sX9_waysOf_62 {G : gz_G} {d l0 s0 : Nat} {Q : Int64 → gz_H → Prop} {k20 : Nat → Int32 → Int32 → Int64 → Int32 → gz_H → Option (Int64 × gz_H)} (hk20 : ∀ (a0 : Nat) (x1 : Int32) (x2 : Int32) (x3 : Int64) (x5 : Int32) (h : gz_H), gz_g (k20 a0 x1 x2 x3 x5 h) Q → gz_Ok G mX9_waysOf (d + 2, l0, s0, 0, 0) 20 [.ref a0, .int x1, .int x2, .long x3, .retAddr 0, .int x5] [] h (gz_ql Q)) (a0 : Nat) (x1 : Int32) (x2 : Int32) (x5 : Int32) (w0 : Int64) (w1 : Int64) (h : gz_H) (hf : gz_g (fX9_waysOf_62 k20 a0 x1 x2 x5 w0 w1 h) Q) : gz_Ok G mX9_waysOf (d + 2, l0, s0, 0, 0) 62 [.ref a0, .int x1, .int x2, .retAddr 0, .retAddr 0, .int x5] [.long w1, .long w0] h (gz_ql Q) := by
  unfold fX9_waysOf_62 at hf
  refine gz_lmul (pc := 62) dX9_waysOf_62 ?_
  refine gz_lstore_n (lv := [.ref a0, .int x1, .int x2, .long (w0 * w1), .retAddr 0, .int x5]) (pc := 63) dX9_waysOf_63 rfl (by decide) rfl ?_
  refine gz_iinc (v := x5 + 1) (lv := [.ref a0, .int x1, .int x2, .long (w0 * w1), .retAddr 0, .int (x5 + 1)]) (pc := 64) dX9_waysOf_64 rfl rfl (by decide) rfl ?_
  refine gz_goto (tgt := 20) (pc := 67) dX9_waysOf_67 rfl ?_
  exact hk20 a0 x1 x2 (w0 * w1) (x5 + 1) h hf
def fX9_waysOf_20  : Nat → Nat → Int32 → Int32 → Int64 → Int32 → gz_H → Option (Int64 × gz_H)
  | 0, _, _, _, _, _, _ => none
  | n + 1, a0, x1, x2, x3, x5, h =>
    gz_ck (gz_sh h a0 9 29) <|
    if (h.2.1 a0 3) ≤ x5 then (
     some (x3, h)
    ) else (
     gz_b2 (fX9_isGone a0 x5 h) fun y_4 h_3 =>
     if y_4 = 0 then (
      gz_b2 (fX9_has x1 x5 h_3) fun y_7 h_6 =>
      if y_7 = 0 then (
       fX9_waysOf_62 (fun z0 z1 z2 z3 z4 zh => fX9_waysOf_20 n z0 z1 z2 z3 z4 zh) a0 x1 x2 x5 x3 (((12 : Int32) - x2).toInt64) h_6
      ) else (
       fX9_waysOf_62 (fun z0 z1 z2 z3 z4 zh => fX9_waysOf_20 n z0 z1 z2 z3 z4 zh) a0 x1 x2 x5 x3 x2.toInt64 h_6
      )
     ) else (
      fX9_waysOf_62 (fun z0 z1 z2 z3 z4 zh => fX9_waysOf_20 n z0 z1 z2 z3 z4 zh) a0 x1 x2 x5 x3 (1 : Int64) h_3
     )
    )
set_option maxRecDepth 100000 in
set_option maxHeartbeats 1000000 in
theorem sX9_waysOf_20 {G : gz_G} {d l0 s0 : Nat} {Q : Int64 → gz_H → Prop} : ∀ (n : Nat) (a0 : Nat) (x1 : Int32) (x2 : Int32) (x3 : Int64) (x5 : Int32) (h : gz_H), gz_g (fX9_waysOf_20  n a0 x1 x2 x3 x5 h) Q → gz_Ok G mX9_waysOf (d + 2, l0, s0, 0, 0) 20 [.ref a0, .int x1, .int x2, .long x3, .retAddr 0, .int x5] [] h (gz_ql Q) := by
  intro n
  induction n with
  | zero => intro a0 x1 x2 x3 x5 h hf; exact False.elim hf
  | succ n ih =>
    intro a0 x1 x2 x3 x5 h hf
    rw [fX9_waysOf_20] at hf
    refine gz_iload (pc := 20) dX9_waysOf_20 rfl ?_
    refine gz_aload_n (pc := 22) dX9_waysOf_22 rfl rfl ?_
    refine gz_gk hf (fun c_1 hf => ?_)
    refine gz_getI (pc := 23) dX9_waysOf_23 fl_RX9_158 rfl (gz_shs c_1) ?_
    refine gz_icmp_ge (tgt := 70) (pc := 26) dX9_waysOf_26 rfl (fun c_2 => ?_) (fun c_2 => ?_)
    · have hf := gz_gT hf c_2
      refine gz_lload_n (pc := 70) dX9_waysOf_70 rfl rfl ?_
      exact gz_lrt (pc := 71) dX9_waysOf_71 rfl hf
    · have hf := gz_gF hf c_2
      refine gz_lload_n (pc := 29) dX9_waysOf_29 rfl rfl ?_
      refine gz_aload_n (pc := 30) dX9_waysOf_30 rfl rfl ?_
      refine gz_iload (pc := 31) dX9_waysOf_31 rfl ?_
      refine gz_cVI (av := [.int x5]) (st := [.long x3]) (pc := 33) dX9_waysOf_33 kl_RX9_177 rfl (gz_shs c_1) rfl rfl (Nat.le_of_ble_eq_true rfl) (by show d + 0 + 1 + 1 ≤ d + 2; omega) (sX9_isGone (d := d + 0) (gz_gc hf)) (fun y_4 h_3 hf => ?_)
      refine gz_if_eq (tgt := 43) (pc := 36) dX9_waysOf_36 rfl (fun c_5 => ?_) (fun c_5 => ?_)
      · have hf := gz_gT hf c_5
        refine gz_iload_n (pc := 43) dX9_waysOf_43 rfl rfl ?_
        refine gz_iload (pc := 44) dX9_waysOf_44 rfl ?_
        refine gz_cSI (av := [.int x1, .int x5]) (st := [.long x3]) (pc := 46) dX9_waysOf_46 kl_RX9_142 rfl rfl (Nat.le_of_ble_eq_true rfl) (by show d + 1 + 0 + 1 ≤ d + 2; omega) (sX9_has (d := d + 1) (gz_gc hf)) (fun y_7 h_6 hf => ?_)
        refine gz_if_eq (tgt := 57) (pc := 49) dX9_waysOf_49 rfl (fun c_8 => ?_) (fun c_8 => ?_)
        · have hf := gz_gT hf c_8
          refine gz_bipush (v := (12 : Int32)) (pc := 57) dX9_waysOf_57 rfl ?_
          refine gz_iload_n (pc := 59) dX9_waysOf_59 rfl rfl ?_
          refine gz_isub (pc := 60) dX9_waysOf_60 ?_
          refine gz_i2l (pc := 61) dX9_waysOf_61 ?_
          refine gz_fg (lv := [.ref a0, .int x1, .int x2, .retAddr 0, .retAddr 0, .int x5]) ⟨Or.inr rfl, ⟨Or.inr rfl, ⟨Or.inr rfl, ⟨Or.inl rfl, ⟨Or.inl rfl, ⟨Or.inr rfl, trivial⟩⟩⟩⟩⟩⟩ ?_
          exact sX9_waysOf_62 ih a0 x1 x2 x5 x3 (((12 : Int32) - x2).toInt64) h_6 hf
        · have hf := gz_gF hf c_8
          refine gz_iload_n (pc := 52) dX9_waysOf_52 rfl rfl ?_
          refine gz_i2l (pc := 53) dX9_waysOf_53 ?_
          refine gz_goto (tgt := 62) (pc := 54) dX9_waysOf_54 rfl ?_
          refine gz_fg (lv := [.ref a0, .int x1, .int x2, .retAddr 0, .retAddr 0, .int x5]) ⟨Or.inr rfl, ⟨Or.inr rfl, ⟨Or.inr rfl, ⟨Or.inl rfl, ⟨Or.inl rfl, ⟨Or.inr rfl, trivial⟩⟩⟩⟩⟩⟩ ?_
          exact sX9_waysOf_62 ih a0 x1 x2 x5 x3 x2.toInt64 h_6 hf
      · have hf := gz_gF hf c_5
        refine gz_lconst (v := (1 : Int64)) (pc := 39) dX9_waysOf_39 rfl ?_
        refine gz_goto (tgt := 62) (pc := 40) dX9_waysOf_40 rfl ?_
        refine gz_fg (lv := [.ref a0, .int x1, .int x2, .retAddr 0, .retAddr 0, .int x5]) ⟨Or.inr rfl, ⟨Or.inr rfl, ⟨Or.inr rfl, ⟨Or.inl rfl, ⟨Or.inl rfl, ⟨Or.inr rfl, trivial⟩⟩⟩⟩⟩⟩ ?_
        exact sX9_waysOf_62 ih a0 x1 x2 x5 x3 (1 : Int64) h_3 hf
def fX9_waysOf_16  (a0 : Nat) (x1 : Int32) (x2 : Int32) (w0 : Int64) (h : gz_H) : Option (Int64 × gz_H) :=
    fX9_waysOf_20 gz_fu a0 x1 x2 w0 (0 : Int32) h
set_option maxRecDepth 100000 in
set_option maxHeartbeats 1000000 in
theorem sX9_waysOf_16 {G : gz_G} {d l0 s0 : Nat} {Q : Int64 → gz_H → Prop} (a0 : Nat) (x1 : Int32) (x2 : Int32) (w0 : Int64) (h : gz_H) (hf : gz_g (fX9_waysOf_16  a0 x1 x2 w0 h) Q) : gz_Ok G mX9_waysOf (d + 2, l0, s0, 0, 0) 16 [.ref a0, .int x1, .int x2, .retAddr 0, .retAddr 0, .retAddr 0] [.long w0] h (gz_ql Q) := by
  unfold fX9_waysOf_16 at hf
  refine gz_lstore_n (lv := [.ref a0, .int x1, .int x2, .long w0, .retAddr 0, .retAddr 0]) (pc := 16) dX9_waysOf_16 rfl (by decide) rfl ?_
  refine gz_iconst (v := (0 : Int32)) (pc := 17) dX9_waysOf_17 rfl ?_
  refine gz_istore (lv := [.ref a0, .int x1, .int x2, .long w0, .retAddr 0, .int (0 : Int32)]) (pc := 18) dX9_waysOf_18 (by decide) rfl ?_
  exact sX9_waysOf_20 gz_fu a0 x1 x2 w0 (0 : Int32) h hf
def fX9_waysOf_0  (a0 : Nat) (x1 : Int32) (x2 : Int32) (h : gz_H) : Option (Int64 × gz_H) :=
    gz_ck (gz_sh h a0 9 29) <|
    gz_br (h.2.2.2 a0 0) fun r_2 =>
    gz_ck (gz_inb h r_2 10 (1 : Int32)) <|
    if (x1 &&& (h.2.1 r_2 (1 : Int32).toNatClampNeg)) = 0 then (
     fX9_waysOf_16 a0 x1 x2 (1 : Int64) h
    ) else (
     fX9_waysOf_16 a0 x1 x2 (0 : Int64) h
    )
set_option maxRecDepth 100000 in
set_option maxHeartbeats 1000000 in
theorem sX9_waysOf_0 {G : gz_G} {d l0 s0 : Nat} {Q : Int64 → gz_H → Prop} (a0 : Nat) (x1 : Int32) (x2 : Int32) (h : gz_H) (hf : gz_g (fX9_waysOf_0  a0 x1 x2 h) Q) : gz_Ok G mX9_waysOf (d + 2, l0, s0, 0, 0) 0 [.ref a0, .int x1, .int x2, .retAddr 0, .retAddr 0, .retAddr 0] [] h (gz_ql Q) := by
  unfold fX9_waysOf_0 at hf
  refine gz_iload_n (pc := 0) dX9_waysOf_0 rfl rfl ?_
  refine gz_aload_n (pc := 1) dX9_waysOf_1 rfl rfl ?_
  refine gz_gk hf (fun c_1 hf => ?_)
  refine gz_gb hf (fun r_2 er_2 hf => ?_)
  refine gz_getR (pc := 2) dX9_waysOf_2 fl_RX9_7 rfl (gz_shs c_1) er_2 ?_
  refine gz_iconst (v := (1 : Int32)) (pc := 5) dX9_waysOf_5 rfl ?_
  refine gz_gk hf (fun c_3 hf => ?_)
  refine gz_iald (pc := 6) dX9_waysOf_6 c_3 ?_
  refine gz_iand (pc := 7) dX9_waysOf_7 ?_
  refine gz_if_ne (tgt := 15) (pc := 8) dX9_waysOf_8 rfl (fun c_4 => ?_) (fun c_4 => ?_)
  · have hf := gz_gF hf c_4
    refine gz_lconst (v := (0 : Int64)) (pc := 15) dX9_waysOf_15 rfl ?_
    exact sX9_waysOf_16 a0 x1 x2 (0 : Int64) h hf
  · have hf := gz_gT hf c_4
    refine gz_lconst (v := (1 : Int64)) (pc := 11) dX9_waysOf_11 rfl ?_
    refine gz_goto (tgt := 16) (pc := 12) dX9_waysOf_12 rfl ?_
    exact sX9_waysOf_16 a0 x1 x2 (1 : Int64) h hf
def fX9_waysOf (a0 : Nat) (x1 : Int32) (x2 : Int32) (h : gz_H) : Option (Int64 × gz_H) := fX9_waysOf_0 a0 x1 x2 h
theorem sX9_waysOf {G : gz_G} {d : Nat} {a0 : Nat} {x1 : Int32} {x2 : Int32} {h : gz_H} {Q : Int64 → gz_H → Prop} (hf : gz_g (fX9_waysOf a0 x1 x2 h) Q) : gz_Cl G mX9_waysOf (d + 2) 0 0 [.ref a0, .int x1, .int x2] h (gz_ql Q) := gz_cl_of (lo := [.ref a0, .int x1, .int x2, .retAddr 0, .retAddr 0, .retAddr 0]) (by decide) rfl rfl (Nat.le_of_ble_eq_true rfl) (sX9_waysOf_0 a0 x1 x2 h hf)
theorem dX9_heldBySome_0 : decode cX9_heldBySome 0 = .ok (.iconst 0, 1) := by decide +kernel
theorem dX9_heldBySome_1 : decode cX9_heldBySome 1 = .ok (.istore_n 2, 1) := by decide +kernel
theorem dX9_heldBySome_2 : decode cX9_heldBySome 2 = .ok (.iconst 0, 1) := by decide +kernel
theorem dX9_heldBySome_3 : decode cX9_heldBySome 3 = .ok (.istore_n 3, 1) := by decide +kernel
theorem dX9_heldBySome_4 : decode cX9_heldBySome 4 = .ok (.iload_n 3, 1) := by decide +kernel
theorem dX9_heldBySome_5 : decode cX9_heldBySome 5 = .ok (.aload_n 0, 1) := by decide +kernel
theorem dX9_heldBySome_6 : decode cX9_heldBySome 6 = .ok (.getfield 158, 3) := by decide +kernel
theorem dX9_heldBySome_9 : decode cX9_heldBySome 9 = .ok (.if_icmp .ge 29, 3) := by decide +kernel
theorem dX9_heldBySome_12 : decode cX9_heldBySome 12 = .ok (.iload_n 2, 1) := by decide +kernel
theorem dX9_heldBySome_13 : decode cX9_heldBySome 13 = .ok (.iload_n 1, 1) := by decide +kernel
theorem dX9_heldBySome_14 : decode cX9_heldBySome 14 = .ok (.iload_n 3, 1) := by decide +kernel
theorem dX9_heldBySome_15 : decode cX9_heldBySome 15 = .ok (.invokestatic 142, 3) := by decide +kernel
theorem dX9_heldBySome_18 : decode cX9_heldBySome 18 = .ok (.ifCond .eq 11, 3) := by decide +kernel
theorem dX9_heldBySome_21 : decode cX9_heldBySome 21 = .ok (.aload_n 0, 1) := by decide +kernel
theorem dX9_heldBySome_22 : decode cX9_heldBySome 22 = .ok (.iload_n 3, 1) := by decide +kernel
theorem dX9_heldBySome_23 : decode cX9_heldBySome 23 = .ok (.invokevirtual 187, 3) := by decide +kernel
theorem dX9_heldBySome_26 : decode cX9_heldBySome 26 = .ok (.goto 4, 3) := by decide +kernel
theorem dX9_heldBySome_29 : decode cX9_heldBySome 29 = .ok (.iconst 0, 1) := by decide +kernel
theorem dX9_heldBySome_30 : decode cX9_heldBySome 30 = .ok (.ior, 1) := by decide +kernel
theorem dX9_heldBySome_31 : decode cX9_heldBySome 31 = .ok (.istore_n 2, 1) := by decide +kernel
theorem dX9_heldBySome_32 : decode cX9_heldBySome 32 = .ok (.iinc 3 1, 3) := by decide +kernel
theorem dX9_heldBySome_35 : decode cX9_heldBySome 35 = .ok (.goto (-31), 3) := by decide +kernel
theorem dX9_heldBySome_38 : decode cX9_heldBySome 38 = .ok (.iload_n 2, 1) := by decide +kernel
theorem dX9_heldBySome_39 : decode cX9_heldBySome 39 = .ok (.ireturn, 1) := by decide +kernel
def fX9_heldBySome_30 (k4 : Nat → Int32 → Int32 → Int32 → gz_H → Option (Int32 × gz_H)) (a0 : Nat) (x1 : Int32) (x3 : Int32) (w0 : Int32) (w1 : Int32) (h : gz_H) : Option (Int32 × gz_H) :=
    k4 a0 x1 (w0 ||| w1) (x3 + 1) h
set_option maxRecDepth 100000 in
set_option maxHeartbeats 1000000 in
theorem sX9_heldBySome_30 {G : gz_G} {d l0 s0 : Nat} {Q : Int32 → gz_H → Prop} {k4 : Nat → Int32 → Int32 → Int32 → gz_H → Option (Int32 × gz_H)} (hk4 : ∀ (a0 : Nat) (x1 : Int32) (x2 : Int32) (x3 : Int32) (h : gz_H), gz_g (k4 a0 x1 x2 x3 h) Q → gz_Ok G mX9_heldBySome (d + 2, l0, s0, 0, 0) 4 [.ref a0, .int x1, .int x2, .int x3] [] h (gz_qi Q)) (a0 : Nat) (x1 : Int32) (x3 : Int32) (w0 : Int32) (w1 : Int32) (h : gz_H) (hf : gz_g (fX9_heldBySome_30 k4 a0 x1 x3 w0 w1 h) Q) : gz_Ok G mX9_heldBySome (d + 2, l0, s0, 0, 0) 30 [.ref a0, .int x1, .retAddr 0, .int x3] [.int w1, .int w0] h (gz_qi Q) := by
  unfold fX9_heldBySome_30 at hf
  refine gz_ior (pc := 30) dX9_heldBySome_30 ?_
  refine gz_istore_n (lv := [.ref a0, .int x1, .int (w0 ||| w1), .int x3]) (pc := 31) dX9_heldBySome_31 rfl (by decide) rfl ?_
  refine gz_iinc (v := x3 + 1) (lv := [.ref a0, .int x1, .int (w0 ||| w1), .int (x3 + 1)]) (pc := 32) dX9_heldBySome_32 rfl rfl (by decide) rfl ?_
  refine gz_goto (tgt := 4) (pc := 35) dX9_heldBySome_35 rfl ?_
  exact hk4 a0 x1 (w0 ||| w1) (x3 + 1) h hf
def fX9_heldBySome_4  : Nat → Nat → Int32 → Int32 → Int32 → gz_H → Option (Int32 × gz_H)
  | 0, _, _, _, _, _ => none
  | n + 1, a0, x1, x2, x3, h =>
    gz_ck (gz_sh h a0 9 29) <|
    if (h.2.1 a0 3) ≤ x3 then (
     some (x2, h)
    ) else (
     gz_b2 (fX9_has x1 x3 h) fun y_4 h_3 =>
     if y_4 = 0 then (
      fX9_heldBySome_30 (fun z0 z1 z2 z3 zh => fX9_heldBySome_4 n z0 z1 z2 z3 zh) a0 x1 x3 x2 (0 : Int32) h_3
     ) else (
      gz_ck (gz_sh h_3 a0 9 29) <|
      gz_b2 (fX9_heldBy a0 x3 h_3) fun y_7 h_6 =>
      fX9_heldBySome_30 (fun z0 z1 z2 z3 zh => fX9_heldBySome_4 n z0 z1 z2 z3 zh) a0 x1 x3 x2 y_7 h_6
     )
    )
set_option maxRecDepth 100000 in
set_option maxHeartbeats 1000000 in
theorem sX9_heldBySome_4 {G : gz_G} {d l0 s0 : Nat} {Q : Int32 → gz_H → Prop} : ∀ (n : Nat) (a0 : Nat) (x1 : Int32) (x2 : Int32) (x3 : Int32) (h : gz_H), gz_g (fX9_heldBySome_4  n a0 x1 x2 x3 h) Q → gz_Ok G mX9_heldBySome (d + 2, l0, s0, 0, 0) 4 [.ref a0, .int x1, .int x2, .int x3] [] h (gz_qi Q) := by
  intro n
  induction n with
  | zero => intro a0 x1 x2 x3 h hf; exact False.elim hf
  | succ n ih =>
    intro a0 x1 x2 x3 h hf
    rw [fX9_heldBySome_4] at hf
    refine gz_iload_n (pc := 4) dX9_heldBySome_4 rfl rfl ?_
    refine gz_aload_n (pc := 5) dX9_heldBySome_5 rfl rfl ?_
    refine gz_gk hf (fun c_1 hf => ?_)
    refine gz_getI (pc := 6) dX9_heldBySome_6 fl_RX9_158 rfl (gz_shs c_1) ?_
    refine gz_icmp_ge (tgt := 38) (pc := 9) dX9_heldBySome_9 rfl (fun c_2 => ?_) (fun c_2 => ?_)
    · have hf := gz_gT hf c_2
      refine gz_iload_n (pc := 38) dX9_heldBySome_38 rfl rfl ?_
      exact gz_irt (pc := 39) dX9_heldBySome_39 rfl rfl hf
    · have hf := gz_gF hf c_2
      refine gz_iload_n (pc := 12) dX9_heldBySome_12 rfl rfl ?_
      refine gz_iload_n (pc := 13) dX9_heldBySome_13 rfl rfl ?_
      refine gz_iload_n (pc := 14) dX9_heldBySome_14 rfl rfl ?_
      refine gz_cSI (av := [.int x1, .int x3]) (st := [.int x2]) (pc := 15) dX9_heldBySome_15 kl_RX9_142 rfl rfl (Nat.le_of_ble_eq_true rfl) (by show d + 1 + 0 + 1 ≤ d + 2; omega) (sX9_has (d := d + 1) (gz_gc hf)) (fun y_4 h_3 hf => ?_)
      refine gz_if_eq (tgt := 29) (pc := 18) dX9_heldBySome_18 rfl (fun c_5 => ?_) (fun c_5 => ?_)
      · have hf := gz_gT hf c_5
        refine gz_iconst (v := (0 : Int32)) (pc := 29) dX9_heldBySome_29 rfl ?_
        refine gz_fg (lv := [.ref a0, .int x1, .retAddr 0, .int x3]) ⟨Or.inr rfl, ⟨Or.inr rfl, ⟨Or.inl rfl, ⟨Or.inr rfl, trivial⟩⟩⟩⟩ ?_
        exact sX9_heldBySome_30 ih a0 x1 x3 x2 (0 : Int32) h_3 hf
      · have hf := gz_gF hf c_5
        refine gz_aload_n (pc := 21) dX9_heldBySome_21 rfl rfl ?_
        refine gz_iload_n (pc := 22) dX9_heldBySome_22 rfl rfl ?_
        refine gz_gk hf (fun c_8 hf => ?_)
        refine gz_cVI (av := [.int x3]) (st := [.int x2]) (pc := 23) dX9_heldBySome_23 kl_RX9_187 rfl (gz_shs c_8) rfl rfl (Nat.le_of_ble_eq_true rfl) (by show d + 0 + 1 + 1 ≤ d + 2; omega) (sX9_heldBy (d := d + 0) (gz_gc hf)) (fun y_7 h_6 hf => ?_)
        refine gz_goto (tgt := 30) (pc := 26) dX9_heldBySome_26 rfl ?_
        refine gz_fg (lv := [.ref a0, .int x1, .retAddr 0, .int x3]) ⟨Or.inr rfl, ⟨Or.inr rfl, ⟨Or.inl rfl, ⟨Or.inr rfl, trivial⟩⟩⟩⟩ ?_
        exact sX9_heldBySome_30 ih a0 x1 x3 x2 y_7 h_6 hf
def fX9_heldBySome_0  (a0 : Nat) (x1 : Int32) (h : gz_H) : Option (Int32 × gz_H) :=
    fX9_heldBySome_4 gz_fu a0 x1 (0 : Int32) (0 : Int32) h
set_option maxRecDepth 100000 in
set_option maxHeartbeats 1000000 in
theorem sX9_heldBySome_0 {G : gz_G} {d l0 s0 : Nat} {Q : Int32 → gz_H → Prop} (a0 : Nat) (x1 : Int32) (h : gz_H) (hf : gz_g (fX9_heldBySome_0  a0 x1 h) Q) : gz_Ok G mX9_heldBySome (d + 2, l0, s0, 0, 0) 0 [.ref a0, .int x1, .retAddr 0, .retAddr 0] [] h (gz_qi Q) := by
  unfold fX9_heldBySome_0 at hf
  refine gz_iconst (v := (0 : Int32)) (pc := 0) dX9_heldBySome_0 rfl ?_
  refine gz_istore_n (lv := [.ref a0, .int x1, .int (0 : Int32), .retAddr 0]) (pc := 1) dX9_heldBySome_1 rfl (by decide) rfl ?_
  refine gz_iconst (v := (0 : Int32)) (pc := 2) dX9_heldBySome_2 rfl ?_
  refine gz_istore_n (lv := [.ref a0, .int x1, .int (0 : Int32), .int (0 : Int32)]) (pc := 3) dX9_heldBySome_3 rfl (by decide) rfl ?_
  exact sX9_heldBySome_4 gz_fu a0 x1 (0 : Int32) (0 : Int32) h hf
def fX9_heldBySome (a0 : Nat) (x1 : Int32) (h : gz_H) : Option (Int32 × gz_H) := fX9_heldBySome_0 a0 x1 h
theorem sX9_heldBySome {G : gz_G} {d : Nat} {a0 : Nat} {x1 : Int32} {h : gz_H} {Q : Int32 → gz_H → Prop} (hf : gz_g (fX9_heldBySome a0 x1 h) Q) : gz_Cl G mX9_heldBySome (d + 2) 0 0 [.ref a0, .int x1] h (gz_qi Q) := gz_cl_of (lo := [.ref a0, .int x1, .retAddr 0, .retAddr 0]) (by decide) rfl rfl (Nat.le_of_ble_eq_true rfl) (sX9_heldBySome_0 a0 x1 h hf)
theorem dX9_odds_0 : decode cX9_odds 0 = .ok (.aload_n 0, 1) := by decide +kernel
theorem dX9_odds_1 : decode cX9_odds 1 = .ok (.iload_n 1, 1) := by decide +kernel
theorem dX9_odds_2 : decode cX9_odds 2 = .ok (.invokevirtual 257, 3) := by decide +kernel
theorem dX9_odds_5 : decode cX9_odds 5 = .ok (.ifCond .eq 15, 3) := by decide +kernel
theorem dX9_odds_8 : decode cX9_odds 8 = .ok (.iload_n 2, 1) := by decide +kernel
theorem dX9_odds_9 : decode cX9_odds 9 = .ok (.i2l, 1) := by decide +kernel
theorem dX9_odds_10 : decode cX9_odds 10 = .ok (.lconst 0, 1) := by decide +kernel
theorem dX9_odds_11 : decode cX9_odds 11 = .ok (.ldc2_w 299, 3) := by decide +kernel
theorem dX9_odds_14 : decode cX9_odds 14 = .ok (.invokestatic 74, 3) := by decide +kernel
theorem dX9_odds_17 : decode cX9_odds 17 = .ok (.ifCond .ne 5, 3) := by decide +kernel
theorem dX9_odds_20 : decode cX9_odds 20 = .ok (.iconst (-1), 1) := by decide +kernel
theorem dX9_odds_21 : decode cX9_odds 21 = .ok (.ireturn, 1) := by decide +kernel
theorem dX9_odds_22 : decode cX9_odds 22 = .ok (.lconst 0, 1) := by decide +kernel
theorem dX9_odds_23 : decode cX9_odds 23 = .ok (.lstore_n 3, 1) := by decide +kernel
theorem dX9_odds_24 : decode cX9_odds 24 = .ok (.lconst 0, 1) := by decide +kernel
theorem dX9_odds_25 : decode cX9_odds 25 = .ok (.lstore 5, 2) := by decide +kernel
theorem dX9_odds_27 : decode cX9_odds 27 = .ok (.iconst 0, 1) := by decide +kernel
theorem dX9_odds_28 : decode cX9_odds 28 = .ok (.istore 7, 2) := by decide +kernel
theorem dX9_odds_30 : decode cX9_odds 30 = .ok (.iload 7, 2) := by decide +kernel
theorem dX9_odds_32 : decode cX9_odds 32 = .ok (.iconst 1, 1) := by decide +kernel
theorem dX9_odds_33 : decode cX9_odds 33 = .ok (.aload_n 0, 1) := by decide +kernel
theorem dX9_odds_34 : decode cX9_odds 34 = .ok (.getfield 158, 3) := by decide +kernel
theorem dX9_odds_37 : decode cX9_odds 37 = .ok (.ishl, 1) := by decide +kernel
theorem dX9_odds_38 : decode cX9_odds 38 = .ok (.if_icmp .ge 48, 3) := by decide +kernel
theorem dX9_odds_41 : decode cX9_odds 41 = .ok (.lload_n 3, 1) := by decide +kernel
theorem dX9_odds_42 : decode cX9_odds 42 = .ok (.iload_n 1, 1) := by decide +kernel
theorem dX9_odds_43 : decode cX9_odds 43 = .ok (.aload_n 0, 1) := by decide +kernel
theorem dX9_odds_44 : decode cX9_odds 44 = .ok (.iload 7, 2) := by decide +kernel
theorem dX9_odds_46 : decode cX9_odds 46 = .ok (.invokevirtual 301, 3) := by decide +kernel
theorem dX9_odds_49 : decode cX9_odds 49 = .ok (.iconst (-1), 1) := by decide +kernel
theorem dX9_odds_50 : decode cX9_odds 50 = .ok (.ixor, 1) := by decide +kernel
theorem dX9_odds_51 : decode cX9_odds 51 = .ok (.iand, 1) := by decide +kernel
theorem dX9_odds_52 : decode cX9_odds 52 = .ok (.ifCond .ne 13, 3) := by decide +kernel
theorem dX9_odds_55 : decode cX9_odds 55 = .ok (.aload_n 0, 1) := by decide +kernel
theorem dX9_odds_56 : decode cX9_odds 56 = .ok (.iload 7, 2) := by decide +kernel
theorem dX9_odds_58 : decode cX9_odds 58 = .ok (.iload_n 2, 1) := by decide +kernel
theorem dX9_odds_59 : decode cX9_odds 59 = .ok (.invokevirtual 304, 3) := by decide +kernel
theorem dX9_odds_62 : decode cX9_odds 62 = .ok (.goto 4, 3) := by decide +kernel
theorem dX9_odds_65 : decode cX9_odds 65 = .ok (.lconst 0, 1) := by decide +kernel
theorem dX9_odds_66 : decode cX9_odds 66 = .ok (.ladd, 1) := by decide +kernel
theorem dX9_odds_67 : decode cX9_odds 67 = .ok (.lstore_n 3, 1) := by decide +kernel
theorem dX9_odds_68 : decode cX9_odds 68 = .ok (.lload 5, 2) := by decide +kernel
theorem dX9_odds_70 : decode cX9_odds 70 = .ok (.aload_n 0, 1) := by decide +kernel
theorem dX9_odds_71 : decode cX9_odds 71 = .ok (.iload 7, 2) := by decide +kernel
theorem dX9_odds_73 : decode cX9_odds 73 = .ok (.iload_n 2, 1) := by decide +kernel
theorem dX9_odds_74 : decode cX9_odds 74 = .ok (.invokevirtual 304, 3) := by decide +kernel
theorem dX9_odds_77 : decode cX9_odds 77 = .ok (.ladd, 1) := by decide +kernel
theorem dX9_odds_78 : decode cX9_odds 78 = .ok (.lstore 5, 2) := by decide +kernel
theorem dX9_odds_80 : decode cX9_odds 80 = .ok (.iinc 7 1, 3) := by decide +kernel
theorem dX9_odds_83 : decode cX9_odds 83 = .ok (.goto (-53), 3) := by decide +kernel
theorem dX9_odds_86 : decode cX9_odds 86 = .ok (.aload_n 0, 1) := by decide +kernel
theorem dX9_odds_87 : decode cX9_odds 87 = .ok (.lload_n 3, 1) := by decide +kernel
theorem dX9_odds_88 : decode cX9_odds 88 = .ok (.lload 5, 2) := by decide +kernel
theorem dX9_odds_90 : decode cX9_odds 90 = .ok (.invokevirtual 283, 3) := by decide +kernel
theorem dX9_odds_93 : decode cX9_odds 93 = .ok (.ireturn, 1) := by decide +kernel
def fX9_odds_66 (k30 : Nat → Int32 → Int32 → Int64 → Int64 → Int32 → gz_H → Option (Int32 × gz_H)) (a0 : Nat) (x1 : Int32) (x2 : Int32) (x5 : Int64) (x7 : Int32) (w0 : Int64) (w1 : Int64) (h : gz_H) : Option (Int32 × gz_H) :=
    gz_ck (gz_sh h a0 9 29) <|
    gz_b2 (fX9_waysOf a0 x7 x2 h) fun y_2 h_1 =>
    k30 a0 x1 x2 (w0 + w1) (x5 + y_2) (x7 + 1) h_1
set_option maxRecDepth 100000 in
set_option maxHeartbeats 1000000 in
theorem sX9_odds_66 {G : gz_G} {d l0 s0 : Nat} {Q : Int32 → gz_H → Prop} {k30 : Nat → Int32 → Int32 → Int64 → Int64 → Int32 → gz_H → Option (Int32 × gz_H)} (hk30 : ∀ (a0 : Nat) (x1 : Int32) (x2 : Int32) (x3 : Int64) (x5 : Int64) (x7 : Int32) (h : gz_H), gz_g (k30 a0 x1 x2 x3 x5 x7 h) Q → gz_Ok G mX9_odds (d + 3, l0, s0, 0, 0) 30 [.ref a0, .int x1, .int x2, .long x3, .retAddr 0, .long x5, .retAddr 0, .int x7] [] h (gz_qi Q)) (a0 : Nat) (x1 : Int32) (x2 : Int32) (x5 : Int64) (x7 : Int32) (w0 : Int64) (w1 : Int64) (h : gz_H) (hf : gz_g (fX9_odds_66 k30 a0 x1 x2 x5 x7 w0 w1 h) Q) : gz_Ok G mX9_odds (d + 3, l0, s0, 0, 0) 66 [.ref a0, .int x1, .int x2, .retAddr 0, .retAddr 0, .long x5, .retAddr 0, .int x7] [.long w1, .long w0] h (gz_qi Q) := by
  unfold fX9_odds_66 at hf
  refine gz_ladd (pc := 66) dX9_odds_66 ?_
  refine gz_lstore_n (lv := [.ref a0, .int x1, .int x2, .long (w0 + w1), .retAddr 0, .long x5, .retAddr 0, .int x7]) (pc := 67) dX9_odds_67 rfl (by decide) rfl ?_
  refine gz_lload (pc := 68) dX9_odds_68 rfl ?_
  refine gz_aload_n (pc := 70) dX9_odds_70 rfl rfl ?_
  refine gz_iload (pc := 71) dX9_odds_71 rfl ?_
  refine gz_iload_n (pc := 73) dX9_odds_73 rfl rfl ?_
  refine gz_gk hf (fun c_3 hf => ?_)
  refine gz_cVL (av := [.int x7, .int x2]) (st := [.long x5]) (pc := 74) dX9_odds_74 kl_RX9_304 rfl (gz_shs c_3) rfl rfl (Nat.le_of_ble_eq_true rfl) (by show d + 0 + 2 + 1 ≤ d + 3; omega) (sX9_waysOf (d := d + 0) (gz_gc hf)) (fun y_2 h_1 hf => ?_)
  refine gz_ladd (pc := 77) dX9_odds_77 ?_
  refine gz_lstore (lv := [.ref a0, .int x1, .int x2, .long (w0 + w1), .retAddr 0, .long (x5 + y_2), .retAddr 0, .int x7]) (pc := 78) dX9_odds_78 (by decide) rfl ?_
  refine gz_iinc (v := x7 + 1) (lv := [.ref a0, .int x1, .int x2, .long (w0 + w1), .retAddr 0, .long (x5 + y_2), .retAddr 0, .int (x7 + 1)]) (pc := 80) dX9_odds_80 rfl rfl (by decide) rfl ?_
  refine gz_goto (tgt := 30) (pc := 83) dX9_odds_83 rfl ?_
  exact hk30 a0 x1 x2 (w0 + w1) (x5 + y_2) (x7 + 1) h_1 hf
def fX9_odds_30  : Nat → Nat → Int32 → Int32 → Int64 → Int64 → Int32 → gz_H → Option (Int32 × gz_H)
  | 0, _, _, _, _, _, _, _ => none
  | n + 1, a0, x1, x2, x3, x5, x7, h =>
    gz_ck (gz_sh h a0 9 29) <|
    if ((1 : Int32) <<< ((h.2.1 a0 3) &&& 31)) ≤ x7 then (
     gz_b2 (fX9_tellParts a0 x3 x5 h) fun y_4 h_3 =>
     some (y_4, h_3)
    ) else (
     gz_b2 (fX9_heldBySome a0 x7 h) fun y_6 h_5 =>
     if (x1 &&& (y_6 ^^^ (-1 : Int32))) = 0 then (
      gz_ck (gz_sh h_5 a0 9 29) <|
      gz_b2 (fX9_waysOf a0 x7 x2 h_5) fun y_9 h_8 =>
      fX9_odds_66 (fun z0 z1 z2 z3 z4 z5 zh => fX9_odds_30 n z0 z1 z2 z3 z4 z5 zh) a0 x1 x2 x5 x7 x3 y_9 h_8
     ) else (
      fX9_odds_66 (fun z0 z1 z2 z3 z4 z5 zh => fX9_odds_30 n z0 z1 z2 z3 z4 z5 zh) a0 x1 x2 x5 x7 x3 (0 : Int64) h_5
     )
    )
set_option maxRecDepth 100000 in
set_option maxHeartbeats 1000000 in
theorem sX9_odds_30 {G : gz_G} {d l0 s0 : Nat} {Q : Int32 → gz_H → Prop} : ∀ (n : Nat) (a0 : Nat) (x1 : Int32) (x2 : Int32) (x3 : Int64) (x5 : Int64) (x7 : Int32) (h : gz_H), gz_g (fX9_odds_30  n a0 x1 x2 x3 x5 x7 h) Q → gz_Ok G mX9_odds (d + 3, l0, s0, 0, 0) 30 [.ref a0, .int x1, .int x2, .long x3, .retAddr 0, .long x5, .retAddr 0, .int x7] [] h (gz_qi Q) := by
  intro n
  induction n with
  | zero => intro a0 x1 x2 x3 x5 x7 h hf; exact False.elim hf
  | succ n ih =>
    intro a0 x1 x2 x3 x5 x7 h hf
    rw [fX9_odds_30] at hf
    refine gz_iload (pc := 30) dX9_odds_30 rfl ?_
    refine gz_iconst (v := (1 : Int32)) (pc := 32) dX9_odds_32 rfl ?_
    refine gz_aload_n (pc := 33) dX9_odds_33 rfl rfl ?_
    refine gz_gk hf (fun c_1 hf => ?_)
    refine gz_getI (pc := 34) dX9_odds_34 fl_RX9_158 rfl (gz_shs c_1) ?_
    refine gz_ishl (pc := 37) dX9_odds_37 ?_
    refine gz_icmp_ge (tgt := 86) (pc := 38) dX9_odds_38 rfl (fun c_2 => ?_) (fun c_2 => ?_)
    · have hf := gz_gT hf c_2
      refine gz_aload_n (pc := 86) dX9_odds_86 rfl rfl ?_
      refine gz_lload_n (pc := 87) dX9_odds_87 rfl rfl ?_
      refine gz_lload (pc := 88) dX9_odds_88 rfl ?_
      refine gz_cVI (av := [.long x3, .long x5]) (st := []) (pc := 90) dX9_odds_90 kl_RX9_283 rfl (gz_shs c_1) rfl rfl (Nat.le_of_ble_eq_true rfl) (by show d + 2 + 0 + 1 ≤ d + 3; omega) (sX9_tellParts (d := d + 2) (gz_gc hf)) (fun y_4 h_3 hf => ?_)
      exact gz_irt (pc := 93) dX9_odds_93 rfl rfl hf
    · have hf := gz_gF hf c_2
      refine gz_lload_n (pc := 41) dX9_odds_41 rfl rfl ?_
      refine gz_iload_n (pc := 42) dX9_odds_42 rfl rfl ?_
      refine gz_aload_n (pc := 43) dX9_odds_43 rfl rfl ?_
      refine gz_iload (pc := 44) dX9_odds_44 rfl ?_
      refine gz_cVI (av := [.int x7]) (st := [.int x1, .long x3]) (pc := 46) dX9_odds_46 kl_RX9_301 rfl (gz_shs c_1) rfl rfl (Nat.le_of_ble_eq_true rfl) (by show d + 0 + 2 + 1 ≤ d + 3; omega) (sX9_heldBySome (d := d + 0) (gz_gc hf)) (fun y_6 h_5 hf => ?_)
      refine gz_iconst (v := (-1 : Int32)) (pc := 49) dX9_odds_49 rfl ?_
      refine gz_ixor (pc := 50) dX9_odds_50 ?_
      refine gz_iand (pc := 51) dX9_odds_51 ?_
      refine gz_if_ne (tgt := 65) (pc := 52) dX9_odds_52 rfl (fun c_7 => ?_) (fun c_7 => ?_)
      · have hf := gz_gF hf c_7
        refine gz_lconst (v := (0 : Int64)) (pc := 65) dX9_odds_65 rfl ?_
        refine gz_fg (lv := [.ref a0, .int x1, .int x2, .retAddr 0, .retAddr 0, .long x5, .retAddr 0, .int x7]) ⟨Or.inr rfl, ⟨Or.inr rfl, ⟨Or.inr rfl, ⟨Or.inl rfl, ⟨Or.inl rfl, ⟨Or.inr rfl, ⟨Or.inl rfl, ⟨Or.inr rfl, trivial⟩⟩⟩⟩⟩⟩⟩⟩ ?_
        exact sX9_odds_66 ih a0 x1 x2 x5 x7 x3 (0 : Int64) h_5 hf
      · have hf := gz_gT hf c_7
        refine gz_aload_n (pc := 55) dX9_odds_55 rfl rfl ?_
        refine gz_iload (pc := 56) dX9_odds_56 rfl ?_
        refine gz_iload_n (pc := 58) dX9_odds_58 rfl rfl ?_
        refine gz_gk hf (fun c_10 hf => ?_)
        refine gz_cVL (av := [.int x7, .int x2]) (st := [.long x3]) (pc := 59) dX9_odds_59 kl_RX9_304 rfl (gz_shs c_10) rfl rfl (Nat.le_of_ble_eq_true rfl) (by show d + 0 + 2 + 1 ≤ d + 3; omega) (sX9_waysOf (d := d + 0) (gz_gc hf)) (fun y_9 h_8 hf => ?_)
        refine gz_goto (tgt := 66) (pc := 62) dX9_odds_62 rfl ?_
        refine gz_fg (lv := [.ref a0, .int x1, .int x2, .retAddr 0, .retAddr 0, .long x5, .retAddr 0, .int x7]) ⟨Or.inr rfl, ⟨Or.inr rfl, ⟨Or.inr rfl, ⟨Or.inl rfl, ⟨Or.inl rfl, ⟨Or.inr rfl, ⟨Or.inl rfl, ⟨Or.inr rfl, trivial⟩⟩⟩⟩⟩⟩⟩⟩ ?_
        exact sX9_odds_66 ih a0 x1 x2 x5 x7 x3 y_9 h_8 hf
def fX9_odds_0  (a0 : Nat) (x1 : Int32) (x2 : Int32) (h : gz_H) : Option (Int32 × gz_H) :=
    gz_ck (gz_sh h a0 9 29) <|
    gz_b2 (fX9_isSet a0 x1 h) fun y_2 h_1 =>
    if y_2 = 0 then (
     some ((-1 : Int32), h_1)
    ) else (
     gz_b2 (fX9_in x2.toInt64 (0 : Int64) (12 : Int64) h_1) fun y_6 h_5 =>
     if y_6 = 0 then (
      some ((-1 : Int32), h_5)
     ) else (
      fX9_odds_30 gz_fu a0 x1 x2 (0 : Int64) (0 : Int64) (0 : Int32) h_5
     )
    )
set_option maxRecDepth 100000 in
set_option maxHeartbeats 1000000 in
theorem sX9_odds_0 {G : gz_G} {d l0 s0 : Nat} {Q : Int32 → gz_H → Prop} (a0 : Nat) (x1 : Int32) (x2 : Int32) (h : gz_H) (hf : gz_g (fX9_odds_0  a0 x1 x2 h) Q) : gz_Ok G mX9_odds (d + 3, l0, s0, 0, 0) 0 [.ref a0, .int x1, .int x2, .retAddr 0, .retAddr 0, .retAddr 0, .retAddr 0, .retAddr 0] [] h (gz_qi Q) := by
  unfold fX9_odds_0 at hf
  refine gz_aload_n (pc := 0) dX9_odds_0 rfl rfl ?_
  refine gz_iload_n (pc := 1) dX9_odds_1 rfl rfl ?_
  refine gz_gk hf (fun c_3 hf => ?_)
  refine gz_cVI (av := [.int x1]) (st := []) (pc := 2) dX9_odds_2 kl_RX9_257 rfl (gz_shs c_3) rfl rfl (Nat.le_of_ble_eq_true rfl) (by show d + 1 + 1 + 1 ≤ d + 3; omega) (sX9_isSet (d := d + 1) (gz_gc hf)) (fun y_2 h_1 hf => ?_)
  refine gz_if_eq (tgt := 20) (pc := 5) dX9_odds_5 rfl (fun c_4 => ?_) (fun c_4 => ?_)
  · have hf := gz_gT hf c_4
    refine gz_iconst (v := (-1 : Int32)) (pc := 20) dX9_odds_20 rfl ?_
    exact gz_irt (pc := 21) dX9_odds_21 rfl rfl hf
  · have hf := gz_gF hf c_4
    refine gz_iload_n (pc := 8) dX9_odds_8 rfl rfl ?_
    refine gz_i2l (pc := 9) dX9_odds_9 ?_
    refine gz_lconst (v := (0 : Int64)) (pc := 10) dX9_odds_10 rfl ?_
    refine gz_ldc2 (v := (12 : Int64)) (pc := 11) dX9_odds_11 kc_RX9_299 ?_
    refine gz_cSI (av := [.long x2.toInt64, .long (0 : Int64), .long (12 : Int64)]) (st := []) (pc := 14) dX9_odds_14 kl_RX9_74 rfl rfl (Nat.le_of_ble_eq_true rfl) (by show d + 2 + 0 + 1 ≤ d + 3; omega) (sX9_in (d := d + 2) (gz_gc hf)) (fun y_6 h_5 hf => ?_)
    refine gz_if_ne (tgt := 22) (pc := 17) dX9_odds_17 rfl (fun c_7 => ?_) (fun c_7 => ?_)
    · have hf := gz_gF hf c_7
      refine gz_lconst (v := (0 : Int64)) (pc := 22) dX9_odds_22 rfl ?_
      refine gz_lstore_n (lv := [.ref a0, .int x1, .int x2, .long (0 : Int64), .retAddr 0, .retAddr 0, .retAddr 0, .retAddr 0]) (pc := 23) dX9_odds_23 rfl (by decide) rfl ?_
      refine gz_lconst (v := (0 : Int64)) (pc := 24) dX9_odds_24 rfl ?_
      refine gz_lstore (lv := [.ref a0, .int x1, .int x2, .long (0 : Int64), .retAddr 0, .long (0 : Int64), .retAddr 0, .retAddr 0]) (pc := 25) dX9_odds_25 (by decide) rfl ?_
      refine gz_iconst (v := (0 : Int32)) (pc := 27) dX9_odds_27 rfl ?_
      refine gz_istore (lv := [.ref a0, .int x1, .int x2, .long (0 : Int64), .retAddr 0, .long (0 : Int64), .retAddr 0, .int (0 : Int32)]) (pc := 28) dX9_odds_28 (by decide) rfl ?_
      exact sX9_odds_30 gz_fu a0 x1 x2 (0 : Int64) (0 : Int64) (0 : Int32) h_5 hf
    · have hf := gz_gT hf c_7
      refine gz_iconst (v := (-1 : Int32)) (pc := 20) dX9_odds_20 rfl ?_
      exact gz_irt (pc := 21) dX9_odds_21 rfl rfl hf
def fX9_odds (a0 : Nat) (x1 : Int32) (x2 : Int32) (h : gz_H) : Option (Int32 × gz_H) := fX9_odds_0 a0 x1 x2 h
theorem sX9_odds {G : gz_G} {d : Nat} {a0 : Nat} {x1 : Int32} {x2 : Int32} {h : gz_H} {Q : Int32 → gz_H → Prop} (hf : gz_g (fX9_odds a0 x1 x2 h) Q) : gz_Cl G mX9_odds (d + 3) 0 0 [.ref a0, .int x1, .int x2] h (gz_qi Q) := gz_cl_of (lo := [.ref a0, .int x1, .int x2, .retAddr 0, .retAddr 0, .retAddr 0, .retAddr 0, .retAddr 0]) (by decide) rfl rfl (Nat.le_of_ble_eq_true rfl) (sX9_odds_0 a0 x1 x2 h hf)
theorem dX9_mid_0 : decode cX9_mid 0 = .ok (.iload_n 1, 1) := by decide +kernel
theorem dX9_mid_1 : decode cX9_mid 1 = .ok (.i2l, 1) := by decide +kernel
theorem dX9_mid_2 : decode cX9_mid 2 = .ok (.lconst 0, 1) := by decide +kernel
theorem dX9_mid_3 : decode cX9_mid 3 = .ok (.ldc2_w 299, 3) := by decide +kernel
theorem dX9_mid_6 : decode cX9_mid 6 = .ok (.invokestatic 74, 3) := by decide +kernel
theorem dX9_mid_9 : decode cX9_mid 9 = .ok (.ifCond .ne 5, 3) := by decide +kernel
theorem dX9_mid_12 : decode cX9_mid 12 = .ok (.iconst (-1), 1) := by decide +kernel
theorem dX9_mid_13 : decode cX9_mid 13 = .ok (.ireturn, 1) := by decide +kernel
theorem dX9_mid_14 : decode cX9_mid 14 = .ok (.lconst 0, 1) := by decide +kernel
theorem dX9_mid_15 : decode cX9_mid 15 = .ok (.lstore_n 2, 1) := by decide +kernel
theorem dX9_mid_16 : decode cX9_mid 16 = .ok (.lconst 0, 1) := by decide +kernel
theorem dX9_mid_17 : decode cX9_mid 17 = .ok (.lstore 4, 2) := by decide +kernel
theorem dX9_mid_19 : decode cX9_mid 19 = .ok (.iconst 0, 1) := by decide +kernel
theorem dX9_mid_20 : decode cX9_mid 20 = .ok (.istore 6, 2) := by decide +kernel
theorem dX9_mid_22 : decode cX9_mid 22 = .ok (.iload 6, 2) := by decide +kernel
theorem dX9_mid_24 : decode cX9_mid 24 = .ok (.iconst 1, 1) := by decide +kernel
theorem dX9_mid_25 : decode cX9_mid 25 = .ok (.aload_n 0, 1) := by decide +kernel
theorem dX9_mid_26 : decode cX9_mid 26 = .ok (.getfield 158, 3) := by decide +kernel
theorem dX9_mid_29 : decode cX9_mid 29 = .ok (.ishl, 1) := by decide +kernel
theorem dX9_mid_30 : decode cX9_mid 30 = .ok (.if_icmp .ge 42, 3) := by decide +kernel
theorem dX9_mid_33 : decode cX9_mid 33 = .ok (.lload_n 2, 1) := by decide +kernel
theorem dX9_mid_34 : decode cX9_mid 34 = .ok (.aload_n 0, 1) := by decide +kernel
theorem dX9_mid_35 : decode cX9_mid 35 = .ok (.iload 6, 2) := by decide +kernel
theorem dX9_mid_37 : decode cX9_mid 37 = .ok (.invokevirtual 301, 3) := by decide +kernel
theorem dX9_mid_40 : decode cX9_mid 40 = .ok (.invokestatic 193, 3) := by decide +kernel
theorem dX9_mid_43 : decode cX9_mid 43 = .ok (.i2l, 1) := by decide +kernel
theorem dX9_mid_44 : decode cX9_mid 44 = .ok (.aload_n 0, 1) := by decide +kernel
theorem dX9_mid_45 : decode cX9_mid 45 = .ok (.iload 6, 2) := by decide +kernel
theorem dX9_mid_47 : decode cX9_mid 47 = .ok (.iload_n 1, 1) := by decide +kernel
theorem dX9_mid_48 : decode cX9_mid 48 = .ok (.invokevirtual 304, 3) := by decide +kernel
theorem dX9_mid_51 : decode cX9_mid 51 = .ok (.lmul, 1) := by decide +kernel
theorem dX9_mid_52 : decode cX9_mid 52 = .ok (.ladd, 1) := by decide +kernel
theorem dX9_mid_53 : decode cX9_mid 53 = .ok (.lstore_n 2, 1) := by decide +kernel
theorem dX9_mid_54 : decode cX9_mid 54 = .ok (.lload 4, 2) := by decide +kernel
theorem dX9_mid_56 : decode cX9_mid 56 = .ok (.aload_n 0, 1) := by decide +kernel
theorem dX9_mid_57 : decode cX9_mid 57 = .ok (.iload 6, 2) := by decide +kernel
theorem dX9_mid_59 : decode cX9_mid 59 = .ok (.iload_n 1, 1) := by decide +kernel
theorem dX9_mid_60 : decode cX9_mid 60 = .ok (.invokevirtual 304, 3) := by decide +kernel
theorem dX9_mid_63 : decode cX9_mid 63 = .ok (.ladd, 1) := by decide +kernel
theorem dX9_mid_64 : decode cX9_mid 64 = .ok (.lstore 4, 2) := by decide +kernel
theorem dX9_mid_66 : decode cX9_mid 66 = .ok (.iinc 6 1, 3) := by decide +kernel
theorem dX9_mid_69 : decode cX9_mid 69 = .ok (.goto (-47), 3) := by decide +kernel
theorem dX9_mid_72 : decode cX9_mid 72 = .ok (.aload_n 0, 1) := by decide +kernel
theorem dX9_mid_73 : decode cX9_mid 73 = .ok (.lload_n 2, 1) := by decide +kernel
theorem dX9_mid_74 : decode cX9_mid 74 = .ok (.lload 4, 2) := by decide +kernel
theorem dX9_mid_76 : decode cX9_mid 76 = .ok (.invokevirtual 283, 3) := by decide +kernel
theorem dX9_mid_79 : decode cX9_mid 79 = .ok (.ireturn, 1) := by decide +kernel
def fX9_mid_22  : Nat → Nat → Int32 → Int64 → Int64 → Int32 → gz_H → Option (Int32 × gz_H)
  | 0, _, _, _, _, _, _ => none
  | n + 1, a0, x1, x2, x4, x6, h =>
    gz_ck (gz_sh h a0 9 29) <|
    if ((1 : Int32) <<< ((h.2.1 a0 3) &&& 31)) ≤ x6 then (
     gz_b2 (fX9_tellParts a0 x2 x4 h) fun y_4 h_3 =>
     some (y_4, h_3)
    ) else (
     gz_b2 (fX9_heldBySome a0 x6 h) fun y_6 h_5 =>
     gz_b2 (fX9_bits y_6 h_5) fun y_8 h_7 =>
     gz_ck (gz_sh h_7 a0 9 29) <|
     gz_b2 (fX9_waysOf a0 x6 x1 h_7) fun y_10 h_9 =>
     gz_ck (gz_sh h_9 a0 9 29) <|
     gz_b2 (fX9_waysOf a0 x6 x1 h_9) fun y_13 h_12 =>
     fX9_mid_22 n a0 x1 (x2 + (y_8.toInt64 * y_10)) (x4 + y_13) (x6 + 1) h_12
    )
set_option maxRecDepth 100000 in
set_option maxHeartbeats 1000000 in
theorem sX9_mid_22 {G : gz_G} {d l0 s0 : Nat} {Q : Int32 → gz_H → Prop} : ∀ (n : Nat) (a0 : Nat) (x1 : Int32) (x2 : Int64) (x4 : Int64) (x6 : Int32) (h : gz_H), gz_g (fX9_mid_22  n a0 x1 x2 x4 x6 h) Q → gz_Ok G mX9_mid (d + 3, l0, s0, 0, 0) 22 [.ref a0, .int x1, .long x2, .retAddr 0, .long x4, .retAddr 0, .int x6] [] h (gz_qi Q) := by
  intro n
  induction n with
  | zero => intro a0 x1 x2 x4 x6 h hf; exact False.elim hf
  | succ n ih =>
    intro a0 x1 x2 x4 x6 h hf
    rw [fX9_mid_22] at hf
    refine gz_iload (pc := 22) dX9_mid_22 rfl ?_
    refine gz_iconst (v := (1 : Int32)) (pc := 24) dX9_mid_24 rfl ?_
    refine gz_aload_n (pc := 25) dX9_mid_25 rfl rfl ?_
    refine gz_gk hf (fun c_1 hf => ?_)
    refine gz_getI (pc := 26) dX9_mid_26 fl_RX9_158 rfl (gz_shs c_1) ?_
    refine gz_ishl (pc := 29) dX9_mid_29 ?_
    refine gz_icmp_ge (tgt := 72) (pc := 30) dX9_mid_30 rfl (fun c_2 => ?_) (fun c_2 => ?_)
    · have hf := gz_gT hf c_2
      refine gz_aload_n (pc := 72) dX9_mid_72 rfl rfl ?_
      refine gz_lload_n (pc := 73) dX9_mid_73 rfl rfl ?_
      refine gz_lload (pc := 74) dX9_mid_74 rfl ?_
      refine gz_cVI (av := [.long x2, .long x4]) (st := []) (pc := 76) dX9_mid_76 kl_RX9_283 rfl (gz_shs c_1) rfl rfl (Nat.le_of_ble_eq_true rfl) (by show d + 2 + 0 + 1 ≤ d + 3; omega) (sX9_tellParts (d := d + 2) (gz_gc hf)) (fun y_4 h_3 hf => ?_)
      exact gz_irt (pc := 79) dX9_mid_79 rfl rfl hf
    · have hf := gz_gF hf c_2
      refine gz_lload_n (pc := 33) dX9_mid_33 rfl rfl ?_
      refine gz_aload_n (pc := 34) dX9_mid_34 rfl rfl ?_
      refine gz_iload (pc := 35) dX9_mid_35 rfl ?_
      refine gz_cVI (av := [.int x6]) (st := [.long x2]) (pc := 37) dX9_mid_37 kl_RX9_301 rfl (gz_shs c_1) rfl rfl (Nat.le_of_ble_eq_true rfl) (by show d + 0 + 2 + 1 ≤ d + 3; omega) (sX9_heldBySome (d := d + 0) (gz_gc hf)) (fun y_6 h_5 hf => ?_)
      refine gz_cSI (av := [.int y_6]) (st := [.long x2]) (pc := 40) dX9_mid_40 kl_RX9_193 rfl rfl (Nat.le_of_ble_eq_true rfl) (by show d + 2 + 0 + 1 ≤ d + 3; omega) (sX9_bits (d := d + 2) (gz_gc hf)) (fun y_8 h_7 hf => ?_)
      refine gz_i2l (pc := 43) dX9_mid_43 ?_
      refine gz_aload_n (pc := 44) dX9_mid_44 rfl rfl ?_
      refine gz_iload (pc := 45) dX9_mid_45 rfl ?_
      refine gz_iload_n (pc := 47) dX9_mid_47 rfl rfl ?_
      refine gz_gk hf (fun c_11 hf => ?_)
      refine gz_cVL (av := [.int x6, .int x1]) (st := [.long y_8.toInt64, .long x2]) (pc := 48) dX9_mid_48 kl_RX9_304 rfl (gz_shs c_11) rfl rfl (Nat.le_of_ble_eq_true rfl) (by show d + 0 + 2 + 1 ≤ d + 3; omega) (sX9_waysOf (d := d + 0) (gz_gc hf)) (fun y_10 h_9 hf => ?_)
      refine gz_lmul (pc := 51) dX9_mid_51 ?_
      refine gz_ladd (pc := 52) dX9_mid_52 ?_
      refine gz_lstore_n (lv := [.ref a0, .int x1, .long (x2 + (y_8.toInt64 * y_10)), .retAddr 0, .long x4, .retAddr 0, .int x6]) (pc := 53) dX9_mid_53 rfl (by decide) rfl ?_
      refine gz_lload (pc := 54) dX9_mid_54 rfl ?_
      refine gz_aload_n (pc := 56) dX9_mid_56 rfl rfl ?_
      refine gz_iload (pc := 57) dX9_mid_57 rfl ?_
      refine gz_iload_n (pc := 59) dX9_mid_59 rfl rfl ?_
      refine gz_gk hf (fun c_14 hf => ?_)
      refine gz_cVL (av := [.int x6, .int x1]) (st := [.long x4]) (pc := 60) dX9_mid_60 kl_RX9_304 rfl (gz_shs c_14) rfl rfl (Nat.le_of_ble_eq_true rfl) (by show d + 0 + 2 + 1 ≤ d + 3; omega) (sX9_waysOf (d := d + 0) (gz_gc hf)) (fun y_13 h_12 hf => ?_)
      refine gz_ladd (pc := 63) dX9_mid_63 ?_
      refine gz_lstore (lv := [.ref a0, .int x1, .long (x2 + (y_8.toInt64 * y_10)), .retAddr 0, .long (x4 + y_13), .retAddr 0, .int x6]) (pc := 64) dX9_mid_64 (by decide) rfl ?_
      refine gz_iinc (v := x6 + 1) (lv := [.ref a0, .int x1, .long (x2 + (y_8.toInt64 * y_10)), .retAddr 0, .long (x4 + y_13), .retAddr 0, .int (x6 + 1)]) (pc := 66) dX9_mid_66 rfl rfl (by decide) rfl ?_
      refine gz_goto (tgt := 22) (pc := 69) dX9_mid_69 rfl ?_
      exact ih a0 x1 (x2 + (y_8.toInt64 * y_10)) (x4 + y_13) (x6 + 1) h_12 hf
def fX9_mid_0  (a0 : Nat) (x1 : Int32) (h : gz_H) : Option (Int32 × gz_H) :=
    gz_b2 (fX9_in x1.toInt64 (0 : Int64) (12 : Int64) h) fun y_2 h_1 =>
    if y_2 = 0 then (
     some ((-1 : Int32), h_1)
    ) else (
     fX9_mid_22 gz_fu a0 x1 (0 : Int64) (0 : Int64) (0 : Int32) h_1
    )
set_option maxRecDepth 100000 in
set_option maxHeartbeats 1000000 in
theorem sX9_mid_0 {G : gz_G} {d l0 s0 : Nat} {Q : Int32 → gz_H → Prop} (a0 : Nat) (x1 : Int32) (h : gz_H) (hf : gz_g (fX9_mid_0  a0 x1 h) Q) : gz_Ok G mX9_mid (d + 3, l0, s0, 0, 0) 0 [.ref a0, .int x1, .retAddr 0, .retAddr 0, .retAddr 0, .retAddr 0, .retAddr 0] [] h (gz_qi Q) := by
  unfold fX9_mid_0 at hf
  refine gz_iload_n (pc := 0) dX9_mid_0 rfl rfl ?_
  refine gz_i2l (pc := 1) dX9_mid_1 ?_
  refine gz_lconst (v := (0 : Int64)) (pc := 2) dX9_mid_2 rfl ?_
  refine gz_ldc2 (v := (12 : Int64)) (pc := 3) dX9_mid_3 kc_RX9_299 ?_
  refine gz_cSI (av := [.long x1.toInt64, .long (0 : Int64), .long (12 : Int64)]) (st := []) (pc := 6) dX9_mid_6 kl_RX9_74 rfl rfl (Nat.le_of_ble_eq_true rfl) (by show d + 2 + 0 + 1 ≤ d + 3; omega) (sX9_in (d := d + 2) (gz_gc hf)) (fun y_2 h_1 hf => ?_)
  refine gz_if_ne (tgt := 14) (pc := 9) dX9_mid_9 rfl (fun c_3 => ?_) (fun c_3 => ?_)
  · have hf := gz_gF hf c_3
    refine gz_lconst (v := (0 : Int64)) (pc := 14) dX9_mid_14 rfl ?_
    refine gz_lstore_n (lv := [.ref a0, .int x1, .long (0 : Int64), .retAddr 0, .retAddr 0, .retAddr 0, .retAddr 0]) (pc := 15) dX9_mid_15 rfl (by decide) rfl ?_
    refine gz_lconst (v := (0 : Int64)) (pc := 16) dX9_mid_16 rfl ?_
    refine gz_lstore (lv := [.ref a0, .int x1, .long (0 : Int64), .retAddr 0, .long (0 : Int64), .retAddr 0, .retAddr 0]) (pc := 17) dX9_mid_17 (by decide) rfl ?_
    refine gz_iconst (v := (0 : Int32)) (pc := 19) dX9_mid_19 rfl ?_
    refine gz_istore (lv := [.ref a0, .int x1, .long (0 : Int64), .retAddr 0, .long (0 : Int64), .retAddr 0, .int (0 : Int32)]) (pc := 20) dX9_mid_20 (by decide) rfl ?_
    exact sX9_mid_22 gz_fu a0 x1 (0 : Int64) (0 : Int64) (0 : Int32) h_1 hf
  · have hf := gz_gT hf c_3
    refine gz_iconst (v := (-1 : Int32)) (pc := 12) dX9_mid_12 rfl ?_
    exact gz_irt (pc := 13) dX9_mid_13 rfl rfl hf
def fX9_mid (a0 : Nat) (x1 : Int32) (h : gz_H) : Option (Int32 × gz_H) := fX9_mid_0 a0 x1 h
theorem sX9_mid {G : gz_G} {d : Nat} {a0 : Nat} {x1 : Int32} {h : gz_H} {Q : Int32 → gz_H → Prop} (hf : gz_g (fX9_mid a0 x1 h) Q) : gz_Cl G mX9_mid (d + 3) 0 0 [.ref a0, .int x1] h (gz_qi Q) := gz_cl_of (lo := [.ref a0, .int x1, .retAddr 0, .retAddr 0, .retAddr 0, .retAddr 0, .retAddr 0]) (by decide) rfl rfl (Nat.le_of_ble_eq_true rfl) (sX9_mid_0 a0 x1 h hf)
theorem dX9_lots_0 : decode cX9_lots 0 = .ok (.iload_n 1, 1) := by decide +kernel
theorem dX9_lots_1 : decode cX9_lots 1 = .ok (.i2l, 1) := by decide +kernel
theorem dX9_lots_2 : decode cX9_lots 2 = .ok (.lconst 1, 1) := by decide +kernel
theorem dX9_lots_3 : decode cX9_lots 3 = .ok (.ldc2_w 299, 3) := by decide +kernel
theorem dX9_lots_6 : decode cX9_lots 6 = .ok (.invokestatic 74, 3) := by decide +kernel
theorem dX9_lots_9 : decode cX9_lots 9 = .ok (.ifCond .eq 15, 3) := by decide +kernel
theorem dX9_lots_12 : decode cX9_lots 12 = .ok (.iload_n 2, 1) := by decide +kernel
theorem dX9_lots_13 : decode cX9_lots 13 = .ok (.i2l, 1) := by decide +kernel
theorem dX9_lots_14 : decode cX9_lots 14 = .ok (.lconst 1, 1) := by decide +kernel
theorem dX9_lots_15 : decode cX9_lots 15 = .ok (.ldc2_w 308, 3) := by decide +kernel
theorem dX9_lots_18 : decode cX9_lots 18 = .ok (.invokestatic 74, 3) := by decide +kernel
theorem dX9_lots_21 : decode cX9_lots 21 = .ok (.ifCond .ne 5, 3) := by decide +kernel
theorem dX9_lots_24 : decode cX9_lots 24 = .ok (.iconst (-1), 1) := by decide +kernel
theorem dX9_lots_25 : decode cX9_lots 25 = .ok (.ireturn, 1) := by decide +kernel
theorem dX9_lots_26 : decode cX9_lots 26 = .ok (.aload_n 0, 1) := by decide +kernel
theorem dX9_lots_27 : decode cX9_lots 27 = .ok (.getfield 158, 3) := by decide +kernel
theorem dX9_lots_30 : decode cX9_lots 30 = .ok (.ifCond .ne 6, 3) := by decide +kernel
theorem dX9_lots_33 : decode cX9_lots 33 = .ok (.bipush (-4), 2) := by decide +kernel
theorem dX9_lots_35 : decode cX9_lots 35 = .ok (.ireturn, 1) := by decide +kernel
theorem dX9_lots_36 : decode cX9_lots 36 = .ok (.aload_n 0, 1) := by decide +kernel
theorem dX9_lots_37 : decode cX9_lots 37 = .ok (.getfield 7, 3) := by decide +kernel
theorem dX9_lots_40 : decode cX9_lots 40 = .ok (.iconst 0, 1) := by decide +kernel
theorem dX9_lots_41 : decode cX9_lots 41 = .ok (.iaload, 1) := by decide +kernel
theorem dX9_lots_42 : decode cX9_lots 42 = .ok (.iload_n 1, 1) := by decide +kernel
theorem dX9_lots_43 : decode cX9_lots 43 = .ok (.iadd, 1) := by decide +kernel
theorem dX9_lots_44 : decode cX9_lots 44 = .ok (.bipush 40, 2) := by decide +kernel
theorem dX9_lots_46 : decode cX9_lots 46 = .ok (.if_icmp .le 6, 3) := by decide +kernel
theorem dX9_lots_49 : decode cX9_lots 49 = .ok (.bipush (-2), 2) := by decide +kernel
theorem dX9_lots_51 : decode cX9_lots 51 = .ok (.ireturn, 1) := by decide +kernel
theorem dX9_lots_52 : decode cX9_lots 52 = .ok (.iload_n 2, 1) := by decide +kernel
theorem dX9_lots_53 : decode cX9_lots 53 = .ok (.i2l, 1) := by decide +kernel
theorem dX9_lots_54 : decode cX9_lots 54 = .ok (.lstore_n 3, 1) := by decide +kernel
theorem dX9_lots_55 : decode cX9_lots 55 = .ok (.iconst 0, 1) := by decide +kernel
theorem dX9_lots_56 : decode cX9_lots 56 = .ok (.istore 5, 2) := by decide +kernel
theorem dX9_lots_58 : decode cX9_lots 58 = .ok (.iload 5, 2) := by decide +kernel
theorem dX9_lots_60 : decode cX9_lots 60 = .ok (.iload_n 1, 1) := by decide +kernel
theorem dX9_lots_61 : decode cX9_lots 61 = .ok (.if_icmp .ge 85, 3) := by decide +kernel
theorem dX9_lots_64 : decode cX9_lots 64 = .ok (.lload_n 3, 1) := by decide +kernel
theorem dX9_lots_65 : decode cX9_lots 65 = .ok (.ldc2_w 310, 3) := by decide +kernel
theorem dX9_lots_68 : decode cX9_lots 68 = .ok (.lmul, 1) := by decide +kernel
theorem dX9_lots_69 : decode cX9_lots 69 = .ok (.ldc2_w 312, 3) := by decide +kernel
theorem dX9_lots_72 : decode cX9_lots 72 = .ok (.lrem, 1) := by decide +kernel
theorem dX9_lots_73 : decode cX9_lots 73 = .ok (.lstore_n 3, 1) := by decide +kernel
theorem dX9_lots_74 : decode cX9_lots 74 = .ok (.lload_n 3, 1) := by decide +kernel
theorem dX9_lots_75 : decode cX9_lots 75 = .ok (.aload_n 0, 1) := by decide +kernel
theorem dX9_lots_76 : decode cX9_lots 76 = .ok (.getfield 158, 3) := by decide +kernel
theorem dX9_lots_79 : decode cX9_lots 79 = .ok (.i2l, 1) := by decide +kernel
theorem dX9_lots_80 : decode cX9_lots 80 = .ok (.lrem, 1) := by decide +kernel
theorem dX9_lots_81 : decode cX9_lots 81 = .ok (.l2i, 1) := by decide +kernel
theorem dX9_lots_82 : decode cX9_lots 82 = .ok (.istore 6, 2) := by decide +kernel
theorem dX9_lots_84 : decode cX9_lots 84 = .ok (.aload_n 0, 1) := by decide +kernel
theorem dX9_lots_85 : decode cX9_lots 85 = .ok (.iload 6, 2) := by decide +kernel
theorem dX9_lots_87 : decode cX9_lots 87 = .ok (.invokevirtual 177, 3) := by decide +kernel
theorem dX9_lots_90 : decode cX9_lots 90 = .ok (.ifCond .ne 50, 3) := by decide +kernel
theorem dX9_lots_93 : decode cX9_lots 93 = .ok (.aload_n 0, 1) := by decide +kernel
theorem dX9_lots_94 : decode cX9_lots 94 = .ok (.invokevirtual 228, 3) := by decide +kernel
theorem dX9_lots_97 : decode cX9_lots 97 = .ok (.lload_n 3, 1) := by decide +kernel
theorem dX9_lots_98 : decode cX9_lots 98 = .ok (.ldc2_w 314, 3) := by decide +kernel
theorem dX9_lots_101 : decode cX9_lots 101 = .ok (.ldiv, 1) := by decide +kernel
theorem dX9_lots_102 : decode cX9_lots 102 = .ok (.ldc2_w 316, 3) := by decide +kernel
theorem dX9_lots_105 : decode cX9_lots 105 = .ok (.lrem, 1) := by decide +kernel
theorem dX9_lots_106 : decode cX9_lots 106 = .ok (.lconst 0, 1) := by decide +kernel
theorem dX9_lots_107 : decode cX9_lots 107 = .ok (.lcmp, 1) := by decide +kernel
theorem dX9_lots_108 : decode cX9_lots 108 = .ok (.ifCond .ne 13, 3) := by decide +kernel
theorem dX9_lots_111 : decode cX9_lots 111 = .ok (.aload_n 0, 1) := by decide +kernel
theorem dX9_lots_112 : decode cX9_lots 112 = .ok (.iload 6, 2) := by decide +kernel
theorem dX9_lots_114 : decode cX9_lots 114 = .ok (.invokevirtual 234, 3) := by decide +kernel
theorem dX9_lots_117 : decode cX9_lots 117 = .ok (.pop, 1) := by decide +kernel
theorem dX9_lots_118 : decode cX9_lots 118 = .ok (.goto 22, 3) := by decide +kernel
theorem dX9_lots_121 : decode cX9_lots 121 = .ok (.aload_n 0, 1) := by decide +kernel
theorem dX9_lots_122 : decode cX9_lots 122 = .ok (.iload 6, 2) := by decide +kernel
theorem dX9_lots_124 : decode cX9_lots 124 = .ok (.lload_n 3, 1) := by decide +kernel
theorem dX9_lots_125 : decode cX9_lots 125 = .ok (.ldc2_w 318, 3) := by decide +kernel
theorem dX9_lots_128 : decode cX9_lots 128 = .ok (.ldiv, 1) := by decide +kernel
theorem dX9_lots_129 : decode cX9_lots 129 = .ok (.aload_n 0, 1) := by decide +kernel
theorem dX9_lots_130 : decode cX9_lots 130 = .ok (.getfield 155, 3) := by decide +kernel
theorem dX9_lots_133 : decode cX9_lots 133 = .ok (.i2l, 1) := by decide +kernel
theorem dX9_lots_134 : decode cX9_lots 134 = .ok (.lrem, 1) := by decide +kernel
theorem dX9_lots_135 : decode cX9_lots 135 = .ok (.l2i, 1) := by decide +kernel
theorem dX9_lots_136 : decode cX9_lots 136 = .ok (.invokevirtual 231, 3) := by decide +kernel
theorem dX9_lots_139 : decode cX9_lots 139 = .ok (.pop, 1) := by decide +kernel
theorem dX9_lots_140 : decode cX9_lots 140 = .ok (.iinc 5 1, 3) := by decide +kernel
theorem dX9_lots_143 : decode cX9_lots 143 = .ok (.goto (-85), 3) := by decide +kernel
theorem dX9_lots_146 : decode cX9_lots 146 = .ok (.aload_n 0, 1) := by decide +kernel
theorem dX9_lots_147 : decode cX9_lots 147 = .ok (.invokevirtual 237, 3) := by decide +kernel
theorem dX9_lots_150 : decode cX9_lots 150 = .ok (.ireturn, 1) := by decide +kernel
def fX9_lots_140 (k58 : Nat → Int32 → Int64 → Int32 → gz_H → Option (Int32 × gz_H)) (a0 : Nat) (x1 : Int32) (x3 : Int64) (x5 : Int32) (h : gz_H) : Option (Int32 × gz_H) :=
    k58 a0 x1 x3 (x5 + 1) h
set_option maxRecDepth 100000 in
set_option maxHeartbeats 1000000 in
theorem sX9_lots_140 {G : gz_G} {d l0 s0 : Nat} {Q : Int32 → gz_H → Prop} {k58 : Nat → Int32 → Int64 → Int32 → gz_H → Option (Int32 × gz_H)} (hk58 : ∀ (a0 : Nat) (x1 : Int32) (x3 : Int64) (x5 : Int32) (h : gz_H), gz_g (k58 a0 x1 x3 x5 h) Q → gz_Ok G mX9_lots (d + 4, l0, s0, 0, 0) 58 [.ref a0, .int x1, .retAddr 0, .long x3, .retAddr 0, .int x5, .retAddr 0] [] h (gz_qi Q)) (a0 : Nat) (x1 : Int32) (x3 : Int64) (x5 : Int32) (h : gz_H) (hf : gz_g (fX9_lots_140 k58 a0 x1 x3 x5 h) Q) : gz_Ok G mX9_lots (d + 4, l0, s0, 0, 0) 140 [.ref a0, .int x1, .retAddr 0, .long x3, .retAddr 0, .int x5, .retAddr 0] [] h (gz_qi Q) := by
  unfold fX9_lots_140 at hf
  refine gz_iinc (v := x5 + 1) (lv := [.ref a0, .int x1, .retAddr 0, .long x3, .retAddr 0, .int (x5 + 1), .retAddr 0]) (pc := 140) dX9_lots_140 rfl rfl (by decide) rfl ?_
  refine gz_goto (tgt := 58) (pc := 143) dX9_lots_143 rfl ?_
  exact hk58 a0 x1 x3 (x5 + 1) h hf
def fX9_lots_58  : Nat → Nat → Int32 → Int64 → Int32 → gz_H → Option (Int32 × gz_H)
  | 0, _, _, _, _, _ => none
  | n + 1, a0, x1, x3, x5, h =>
    if x1 ≤ x5 then (
     gz_ck (gz_sh h a0 9 29) <|
     gz_b2 (fX9_lostMany a0 h) fun y_3 h_2 =>
     some (y_3, h_2)
    ) else (
     gz_lt ((x3 * (48271 : Int64)) - (x3 * (48271 : Int64)) / (2147483647 : Int64) * (2147483647 : Int64)) fun (y_5 : Int64) =>
     gz_ck (gz_sh h a0 9 29) <|
     gz_ck (gz_nzL ((h.2.1 a0 3).toInt64)) <|
     gz_lt ((y_5 - y_5 / ((h.2.1 a0 3).toInt64) * ((h.2.1 a0 3).toInt64)).toInt32) fun (y_8 : Int32) =>
     gz_b2 (fX9_isGone a0 y_8 h) fun y_10 h_9 =>
     if y_10 = 0 then (
      gz_ck (gz_sh h_9 a0 9 29) <|
      gz_b2 (fX9_keepPast a0 h_9) fun _ h_12 =>
      if (lg_cmp ((y_5 / (8 : Int64)) - (y_5 / (8 : Int64)) / (4 : Int64) * (4 : Int64)) (0 : Int64)) = 0 then (
       gz_ck (gz_sh h_12 a0 9 29) <|
       gz_b2 (fX9_doFright a0 y_8 h_12) fun y_21 h_20 =>
       fX9_lots_140 (fun z0 z1 z2 z3 zh => fX9_lots_58 n z0 z1 z2 z3 zh) a0 x1 y_5 x5 h_20
      ) else (
       gz_ck (gz_sh h_12 a0 9 29) <|
       gz_ck (gz_nzL ((h_12.2.1 a0 1).toInt64)) <|
       gz_b2 (fX9_doGive a0 y_8 (((y_5 / (64 : Int64)) - (y_5 / (64 : Int64)) / ((h_12.2.1 a0 1).toInt64) * ((h_12.2.1 a0 1).toInt64)).toInt32) h_12) fun y_19 h_18 =>
       fX9_lots_140 (fun z0 z1 z2 z3 zh => fX9_lots_58 n z0 z1 z2 z3 zh) a0 x1 y_5 x5 h_18
      )
     ) else (
      fX9_lots_140 (fun z0 z1 z2 z3 zh => fX9_lots_58 n z0 z1 z2 z3 zh) a0 x1 y_5 x5 h_9
     )
    )
set_option maxRecDepth 100000 in
set_option maxHeartbeats 1000000 in
theorem sX9_lots_58 {G : gz_G} {d l0 s0 : Nat} {Q : Int32 → gz_H → Prop} : ∀ (n : Nat) (a0 : Nat) (x1 : Int32) (x3 : Int64) (x5 : Int32) (h : gz_H), gz_g (fX9_lots_58  n a0 x1 x3 x5 h) Q → gz_Ok G mX9_lots (d + 4, l0, s0, 0, 0) 58 [.ref a0, .int x1, .retAddr 0, .long x3, .retAddr 0, .int x5, .retAddr 0] [] h (gz_qi Q) := by
  intro n
  induction n with
  | zero => intro a0 x1 x3 x5 h hf; exact False.elim hf
  | succ n ih =>
    intro a0 x1 x3 x5 h hf
    rw [fX9_lots_58] at hf
    refine gz_iload (pc := 58) dX9_lots_58 rfl ?_
    refine gz_iload_n (pc := 60) dX9_lots_60 rfl rfl ?_
    refine gz_icmp_ge (tgt := 146) (pc := 61) dX9_lots_61 rfl (fun c_1 => ?_) (fun c_1 => ?_)
    · have hf := gz_gT hf c_1
      refine gz_aload_n (pc := 146) dX9_lots_146 rfl rfl ?_
      refine gz_gk hf (fun c_4 hf => ?_)
      refine gz_cVI (av := []) (st := []) (pc := 147) dX9_lots_147 kl_RX9_237 rfl (gz_shs c_4) rfl rfl (Nat.le_of_ble_eq_true rfl) (by show d + 0 + 3 + 1 ≤ d + 4; omega) (sX9_lostMany (d := d + 0) (gz_gc hf)) (fun y_3 h_2 hf => ?_)
      exact gz_irt (pc := 150) dX9_lots_150 rfl rfl hf
    · have hf := gz_gF hf c_1
      refine gz_lload_n (pc := 64) dX9_lots_64 rfl rfl ?_
      refine gz_ldc2 (v := (48271 : Int64)) (pc := 65) dX9_lots_65 kc_RX9_310 ?_
      refine gz_lmul (pc := 68) dX9_lots_68 ?_
      refine gz_ldc2 (v := (2147483647 : Int64)) (pc := 69) dX9_lots_69 kc_RX9_312 ?_
      refine gz_lrem (pc := 72) dX9_lots_72 (by decide) ?_
      refine gz_nmL (fun y_5 ey_5 => ?_)
      have hf := gz_gl ey_5 hf
      refine gz_lstore_n (lv := [.ref a0, .int x1, .retAddr 0, .long y_5, .retAddr 0, .int x5, .retAddr 0]) (pc := 73) dX9_lots_73 rfl (by decide) rfl ?_
      refine gz_lload_n (pc := 74) dX9_lots_74 rfl rfl ?_
      refine gz_aload_n (pc := 75) dX9_lots_75 rfl rfl ?_
      refine gz_gk hf (fun c_6 hf => ?_)
      refine gz_getI (pc := 76) dX9_lots_76 fl_RX9_158 rfl (gz_shs c_6) ?_
      refine gz_i2l (pc := 79) dX9_lots_79 ?_
      refine gz_gk hf (fun c_7 hf => ?_)
      refine gz_lrem (pc := 80) dX9_lots_80 (gz_nzLs c_7) ?_
      refine gz_l2i (pc := 81) dX9_lots_81 ?_
      refine gz_nmI (fun y_8 ey_8 => ?_)
      have hf := gz_gl ey_8 hf
      refine gz_istore (lv := [.ref a0, .int x1, .retAddr 0, .long y_5, .retAddr 0, .int x5, .int y_8]) (pc := 82) dX9_lots_82 (by decide) rfl ?_
      refine gz_aload_n (pc := 84) dX9_lots_84 rfl rfl ?_
      refine gz_iload (pc := 85) dX9_lots_85 rfl ?_
      refine gz_cVI (av := [.int y_8]) (st := []) (pc := 87) dX9_lots_87 kl_RX9_177 rfl (gz_shs c_6) rfl rfl (Nat.le_of_ble_eq_true rfl) (by show d + 2 + 1 + 1 ≤ d + 4; omega) (sX9_isGone (d := d + 2) (gz_gc hf)) (fun y_10 h_9 hf => ?_)
      refine gz_if_ne (tgt := 140) (pc := 90) dX9_lots_90 rfl (fun c_11 => ?_) (fun c_11 => ?_)
      · have hf := gz_gF hf c_11
        refine gz_fg (lv := [.ref a0, .int x1, .retAddr 0, .long y_5, .retAddr 0, .int x5, .retAddr 0]) ⟨Or.inr rfl, ⟨Or.inr rfl, ⟨Or.inl rfl, ⟨Or.inr rfl, ⟨Or.inl rfl, ⟨Or.inr rfl, ⟨Or.inl rfl, trivial⟩⟩⟩⟩⟩⟩⟩ ?_
        exact sX9_lots_140 ih a0 x1 y_5 x5 h_9 hf
      · have hf := gz_gT hf c_11
        refine gz_aload_n (pc := 93) dX9_lots_93 rfl rfl ?_
        refine gz_gk hf (fun c_14 hf => ?_)
        refine gz_cVV (av := []) (st := []) (pc := 94) dX9_lots_94 kl_RX9_228 rfl (gz_shs c_14) rfl rfl (Nat.le_of_ble_eq_true rfl) (by show d + 3 + 0 + 1 ≤ d + 4; omega) (sX9_keepPast (d := d + 3) (gz_gc hf)) (fun _ h_12 hf => ?_)
        refine gz_lload_n (pc := 97) dX9_lots_97 rfl rfl ?_
        refine gz_ldc2 (v := (8 : Int64)) (pc := 98) dX9_lots_98 kc_RX9_314 ?_
        refine gz_ldiv (pc := 101) dX9_lots_101 (by decide) ?_
        refine gz_ldc2 (v := (4 : Int64)) (pc := 102) dX9_lots_102 kc_RX9_316 ?_
        refine gz_lrem (pc := 105) dX9_lots_105 (by decide) ?_
        refine gz_lconst (v := (0 : Int64)) (pc := 106) dX9_lots_106 rfl ?_
        refine gz_lcmp (pc := 107) dX9_lots_107 ?_
        refine gz_if_ne (tgt := 121) (pc := 108) dX9_lots_108 rfl (fun c_15 => ?_) (fun c_15 => ?_)
        · have hf := gz_gF hf c_15
          refine gz_aload_n (pc := 121) dX9_lots_121 rfl rfl ?_
          refine gz_iload (pc := 122) dX9_lots_122 rfl ?_
          refine gz_lload_n (pc := 124) dX9_lots_124 rfl rfl ?_
          refine gz_ldc2 (v := (64 : Int64)) (pc := 125) dX9_lots_125 kc_RX9_318 ?_
          refine gz_ldiv (pc := 128) dX9_lots_128 (by decide) ?_
          refine gz_aload_n (pc := 129) dX9_lots_129 rfl rfl ?_
          refine gz_gk hf (fun c_16 hf => ?_)
          refine gz_getI (pc := 130) dX9_lots_130 fl_RX9_155 rfl (gz_shs c_16) ?_
          refine gz_i2l (pc := 133) dX9_lots_133 ?_
          refine gz_gk hf (fun c_17 hf => ?_)
          refine gz_lrem (pc := 134) dX9_lots_134 (gz_nzLs c_17) ?_
          refine gz_l2i (pc := 135) dX9_lots_135 ?_
          refine gz_cVI (av := [.int y_8, .int (((y_5 / (64 : Int64)) - (y_5 / (64 : Int64)) / ((h_12.2.1 a0 1).toInt64) * ((h_12.2.1 a0 1).toInt64)).toInt32)]) (st := []) (pc := 136) dX9_lots_136 kl_RX9_231 rfl (gz_shs c_16) rfl rfl (Nat.le_of_ble_eq_true rfl) (by show d + 1 + 2 + 1 ≤ d + 4; omega) (sX9_doGive (d := d + 1) (gz_gc hf)) (fun y_19 h_18 hf => ?_)
          refine gz_pop (pc := 139) dX9_lots_139 rfl ?_
          refine gz_fg (lv := [.ref a0, .int x1, .retAddr 0, .long y_5, .retAddr 0, .int x5, .retAddr 0]) ⟨Or.inr rfl, ⟨Or.inr rfl, ⟨Or.inl rfl, ⟨Or.inr rfl, ⟨Or.inl rfl, ⟨Or.inr rfl, ⟨Or.inl rfl, trivial⟩⟩⟩⟩⟩⟩⟩ ?_
          exact sX9_lots_140 ih a0 x1 y_5 x5 h_18 hf
        · have hf := gz_gT hf c_15
          refine gz_aload_n (pc := 111) dX9_lots_111 rfl rfl ?_
          refine gz_iload (pc := 112) dX9_lots_112 rfl ?_
          refine gz_gk hf (fun c_22 hf => ?_)
          refine gz_cVI (av := [.int y_8]) (st := []) (pc := 114) dX9_lots_114 kl_RX9_234 rfl (gz_shs c_22) rfl rfl (Nat.le_of_ble_eq_true rfl) (by show d + 2 + 1 + 1 ≤ d + 4; omega) (sX9_doFright (d := d + 2) (gz_gc hf)) (fun y_21 h_20 hf => ?_)
          refine gz_pop (pc := 117) dX9_lots_117 rfl ?_
          refine gz_goto (tgt := 140) (pc := 118) dX9_lots_118 rfl ?_
          refine gz_fg (lv := [.ref a0, .int x1, .retAddr 0, .long y_5, .retAddr 0, .int x5, .retAddr 0]) ⟨Or.inr rfl, ⟨Or.inr rfl, ⟨Or.inl rfl, ⟨Or.inr rfl, ⟨Or.inl rfl, ⟨Or.inr rfl, ⟨Or.inl rfl, trivial⟩⟩⟩⟩⟩⟩⟩ ?_
          exact sX9_lots_140 ih a0 x1 y_5 x5 h_20 hf
def fX9_lots_0  (a0 : Nat) (x1 : Int32) (x2 : Int32) (h : gz_H) : Option (Int32 × gz_H) :=
    gz_b2 (fX9_in x1.toInt64 (1 : Int64) (12 : Int64) h) fun y_2 h_1 =>
    if y_2 = 0 then (
     some ((-1 : Int32), h_1)
    ) else (
     gz_b2 (fX9_in x2.toInt64 (1 : Int64) (2147483646 : Int64) h_1) fun y_5 h_4 =>
     if y_5 = 0 then (
      some ((-1 : Int32), h_4)
     ) else (
      gz_ck (gz_sh h_4 a0 9 29) <|
      if (h_4.2.1 a0 3) = 0 then (
       some ((-4 : Int32), h_4)
      ) else (
       gz_br (h_4.2.2.2 a0 0) fun r_9 =>
       gz_ck (gz_inb h_4 r_9 10 (0 : Int32)) <|
       if ((h_4.2.1 r_9 (0 : Int32).toNatClampNeg) + x1) ≤ (40 : Int32) then (
        fX9_lots_58 gz_fu a0 x1 x2.toInt64 (0 : Int32) h_4
       ) else (
        some ((-2 : Int32), h_4)
       )
      )
     )
    )
set_option maxRecDepth 100000 in
set_option maxHeartbeats 1000000 in
theorem sX9_lots_0 {G : gz_G} {d l0 s0 : Nat} {Q : Int32 → gz_H → Prop} (a0 : Nat) (x1 : Int32) (x2 : Int32) (h : gz_H) (hf : gz_g (fX9_lots_0  a0 x1 x2 h) Q) : gz_Ok G mX9_lots (d + 4, l0, s0, 0, 0) 0 [.ref a0, .int x1, .int x2, .retAddr 0, .retAddr 0, .retAddr 0, .retAddr 0] [] h (gz_qi Q) := by
  unfold fX9_lots_0 at hf
  refine gz_iload_n (pc := 0) dX9_lots_0 rfl rfl ?_
  refine gz_i2l (pc := 1) dX9_lots_1 ?_
  refine gz_lconst (v := (1 : Int64)) (pc := 2) dX9_lots_2 rfl ?_
  refine gz_ldc2 (v := (12 : Int64)) (pc := 3) dX9_lots_3 kc_RX9_299 ?_
  refine gz_cSI (av := [.long x1.toInt64, .long (1 : Int64), .long (12 : Int64)]) (st := []) (pc := 6) dX9_lots_6 kl_RX9_74 rfl rfl (Nat.le_of_ble_eq_true rfl) (by show d + 3 + 0 + 1 ≤ d + 4; omega) (sX9_in (d := d + 3) (gz_gc hf)) (fun y_2 h_1 hf => ?_)
  refine gz_if_eq (tgt := 24) (pc := 9) dX9_lots_9 rfl (fun c_3 => ?_) (fun c_3 => ?_)
  · have hf := gz_gT hf c_3
    refine gz_iconst (v := (-1 : Int32)) (pc := 24) dX9_lots_24 rfl ?_
    exact gz_irt (pc := 25) dX9_lots_25 rfl rfl hf
  · have hf := gz_gF hf c_3
    refine gz_iload_n (pc := 12) dX9_lots_12 rfl rfl ?_
    refine gz_i2l (pc := 13) dX9_lots_13 ?_
    refine gz_lconst (v := (1 : Int64)) (pc := 14) dX9_lots_14 rfl ?_
    refine gz_ldc2 (v := (2147483646 : Int64)) (pc := 15) dX9_lots_15 kc_RX9_308 ?_
    refine gz_cSI (av := [.long x2.toInt64, .long (1 : Int64), .long (2147483646 : Int64)]) (st := []) (pc := 18) dX9_lots_18 kl_RX9_74 rfl rfl (Nat.le_of_ble_eq_true rfl) (by show d + 3 + 0 + 1 ≤ d + 4; omega) (sX9_in (d := d + 3) (gz_gc hf)) (fun y_5 h_4 hf => ?_)
    refine gz_if_ne (tgt := 26) (pc := 21) dX9_lots_21 rfl (fun c_6 => ?_) (fun c_6 => ?_)
    · have hf := gz_gF hf c_6
      refine gz_aload_n (pc := 26) dX9_lots_26 rfl rfl ?_
      refine gz_gk hf (fun c_7 hf => ?_)
      refine gz_getI (pc := 27) dX9_lots_27 fl_RX9_158 rfl (gz_shs c_7) ?_
      refine gz_if_ne (tgt := 36) (pc := 30) dX9_lots_30 rfl (fun c_8 => ?_) (fun c_8 => ?_)
      · have hf := gz_gF hf c_8
        refine gz_aload_n (pc := 36) dX9_lots_36 rfl rfl ?_
        refine gz_gb hf (fun r_9 er_9 hf => ?_)
        refine gz_getR (pc := 37) dX9_lots_37 fl_RX9_7 rfl (gz_shs c_7) er_9 ?_
        refine gz_iconst (v := (0 : Int32)) (pc := 40) dX9_lots_40 rfl ?_
        refine gz_gk hf (fun c_10 hf => ?_)
        refine gz_iald (pc := 41) dX9_lots_41 c_10 ?_
        refine gz_iload_n (pc := 42) dX9_lots_42 rfl rfl ?_
        refine gz_iadd (pc := 43) dX9_lots_43 ?_
        refine gz_bipush (v := (40 : Int32)) (pc := 44) dX9_lots_44 rfl ?_
        refine gz_icmp_le (tgt := 52) (pc := 46) dX9_lots_46 rfl (fun c_11 => ?_) (fun c_11 => ?_)
        · have hf := gz_gT hf c_11
          refine gz_iload_n (pc := 52) dX9_lots_52 rfl rfl ?_
          refine gz_i2l (pc := 53) dX9_lots_53 ?_
          refine gz_lstore_n (lv := [.ref a0, .int x1, .int x2, .long x2.toInt64, .retAddr 0, .retAddr 0, .retAddr 0]) (pc := 54) dX9_lots_54 rfl (by decide) rfl ?_
          refine gz_iconst (v := (0 : Int32)) (pc := 55) dX9_lots_55 rfl ?_
          refine gz_istore (lv := [.ref a0, .int x1, .int x2, .long x2.toInt64, .retAddr 0, .int (0 : Int32), .retAddr 0]) (pc := 56) dX9_lots_56 (by decide) rfl ?_
          refine gz_fg (lv := [.ref a0, .int x1, .retAddr 0, .long x2.toInt64, .retAddr 0, .int (0 : Int32), .retAddr 0]) ⟨Or.inr rfl, ⟨Or.inr rfl, ⟨Or.inl rfl, ⟨Or.inr rfl, ⟨Or.inl rfl, ⟨Or.inr rfl, ⟨Or.inl rfl, trivial⟩⟩⟩⟩⟩⟩⟩ ?_
          exact sX9_lots_58 gz_fu a0 x1 x2.toInt64 (0 : Int32) h_4 hf
        · have hf := gz_gF hf c_11
          refine gz_bipush (v := (-2 : Int32)) (pc := 49) dX9_lots_49 rfl ?_
          exact gz_irt (pc := 51) dX9_lots_51 rfl rfl hf
      · have hf := gz_gT hf c_8
        refine gz_bipush (v := (-4 : Int32)) (pc := 33) dX9_lots_33 rfl ?_
        exact gz_irt (pc := 35) dX9_lots_35 rfl rfl hf
    · have hf := gz_gT hf c_6
      refine gz_iconst (v := (-1 : Int32)) (pc := 24) dX9_lots_24 rfl ?_
      exact gz_irt (pc := 25) dX9_lots_25 rfl rfl hf
def fX9_lots (a0 : Nat) (x1 : Int32) (x2 : Int32) (h : gz_H) : Option (Int32 × gz_H) := fX9_lots_0 a0 x1 x2 h
theorem sX9_lots {G : gz_G} {d : Nat} {a0 : Nat} {x1 : Int32} {x2 : Int32} {h : gz_H} {Q : Int32 → gz_H → Prop} (hf : gz_g (fX9_lots a0 x1 x2 h) Q) : gz_Cl G mX9_lots (d + 4) 0 0 [.ref a0, .int x1, .int x2] h (gz_qi Q) := gz_cl_of (lo := [.ref a0, .int x1, .int x2, .retAddr 0, .retAddr 0, .retAddr 0, .retAddr 0]) (by decide) rfl rfl (Nat.le_of_ble_eq_true rfl) (sX9_lots_0 a0 x1 x2 h hf)
theorem dX9_asked_0 : decode cX9_asked 0 = .ok (.aload_n 0, 1) := by decide +kernel
theorem dX9_asked_1 : decode cX9_asked 1 = .ok (.getfield 69, 3) := by decide +kernel
theorem dX9_asked_4 : decode cX9_asked 4 = .ok (.ireturn, 1) := by decide +kernel
def fX9_asked_0  (a0 : Nat) (h : gz_H) : Option (Int32 × gz_H) :=
    gz_ck (gz_sh h a0 9 29) <|
    some (h.2.1 a0 11, h)
set_option maxRecDepth 100000 in
set_option maxHeartbeats 1000000 in
theorem sX9_asked_0 {G : gz_G} {d l0 s0 : Nat} {Q : Int32 → gz_H → Prop} (a0 : Nat) (h : gz_H) (hf : gz_g (fX9_asked_0  a0 h) Q) : gz_Ok G mX9_asked (d + 0, l0, s0, 0, 0) 0 [.ref a0] [] h (gz_qi Q) := by
  unfold fX9_asked_0 at hf
  refine gz_aload_n (pc := 0) dX9_asked_0 rfl rfl ?_
  refine gz_gk hf (fun c_1 hf => ?_)
  refine gz_getI (pc := 1) dX9_asked_1 fl_RX9_69 rfl (gz_shs c_1) ?_
  exact gz_irt (pc := 4) dX9_asked_4 rfl rfl hf
def fX9_asked (a0 : Nat) (h : gz_H) : Option (Int32 × gz_H) := fX9_asked_0 a0 h
theorem sX9_asked {G : gz_G} {d : Nat} {a0 : Nat} {h : gz_H} {Q : Int32 → gz_H → Prop} (hf : gz_g (fX9_asked a0 h) Q) : gz_Cl G mX9_asked (d + 0) 0 0 [.ref a0] h (gz_qi Q) := gz_cl_of (lo := [.ref a0]) (by decide) rfl rfl (Nat.le_of_ble_eq_true rfl) (sX9_asked_0 a0 h hf)
theorem dX9_upper_0 : decode cX9_upper 0 = .ok (.aload_n 0, 1) := by decide +kernel
theorem dX9_upper_1 : decode cX9_upper 1 = .ok (.getfield 278, 3) := by decide +kernel
theorem dX9_upper_4 : decode cX9_upper 4 = .ok (.lreturn, 1) := by decide +kernel
def fX9_upper_0  (a0 : Nat) (h : gz_H) : Option (Int64 × gz_H) :=
    gz_ck (gz_sh h a0 9 29) <|
    some (h.2.2.1 a0 12, h)
set_option maxRecDepth 100000 in
set_option maxHeartbeats 1000000 in
theorem sX9_upper_0 {G : gz_G} {d l0 s0 : Nat} {Q : Int64 → gz_H → Prop} (a0 : Nat) (h : gz_H) (hf : gz_g (fX9_upper_0  a0 h) Q) : gz_Ok G mX9_upper (d + 0, l0, s0, 0, 0) 0 [.ref a0] [] h (gz_ql Q) := by
  unfold fX9_upper_0 at hf
  refine gz_aload_n (pc := 0) dX9_upper_0 rfl rfl ?_
  refine gz_gk hf (fun c_1 hf => ?_)
  refine gz_getL (pc := 1) dX9_upper_1 fl_RX9_278 rfl (gz_shs c_1) ?_
  exact gz_lrt (pc := 4) dX9_upper_4 rfl hf
def fX9_upper (a0 : Nat) (h : gz_H) : Option (Int64 × gz_H) := fX9_upper_0 a0 h
theorem sX9_upper {G : gz_G} {d : Nat} {a0 : Nat} {h : gz_H} {Q : Int64 → gz_H → Prop} (hf : gz_g (fX9_upper a0 h) Q) : gz_Cl G mX9_upper (d + 0) 0 0 [.ref a0] h (gz_ql Q) := gz_cl_of (lo := [.ref a0]) (by decide) rfl rfl (Nat.le_of_ble_eq_true rfl) (sX9_upper_0 a0 h hf)
theorem dX9_lower_0 : decode cX9_lower 0 = .ok (.aload_n 0, 1) := by decide +kernel
theorem dX9_lower_1 : decode cX9_lower 1 = .ok (.getfield 37, 3) := by decide +kernel
theorem dX9_lower_4 : decode cX9_lower 4 = .ok (.lreturn, 1) := by decide +kernel
def fX9_lower_0  (a0 : Nat) (h : gz_H) : Option (Int64 × gz_H) :=
    gz_ck (gz_sh h a0 9 29) <|
    some (h.2.2.1 a0 13, h)
set_option maxRecDepth 100000 in
set_option maxHeartbeats 1000000 in
theorem sX9_lower_0 {G : gz_G} {d l0 s0 : Nat} {Q : Int64 → gz_H → Prop} (a0 : Nat) (h : gz_H) (hf : gz_g (fX9_lower_0  a0 h) Q) : gz_Ok G mX9_lower (d + 0, l0, s0, 0, 0) 0 [.ref a0] [] h (gz_ql Q) := by
  unfold fX9_lower_0 at hf
  refine gz_aload_n (pc := 0) dX9_lower_0 rfl rfl ?_
  refine gz_gk hf (fun c_1 hf => ?_)
  refine gz_getL (pc := 1) dX9_lower_1 fl_RX9_37 rfl (gz_shs c_1) ?_
  exact gz_lrt (pc := 4) dX9_lower_4 rfl hf
def fX9_lower (a0 : Nat) (h : gz_H) : Option (Int64 × gz_H) := fX9_lower_0 a0 h
theorem sX9_lower {G : gz_G} {d : Nat} {a0 : Nat} {h : gz_H} {Q : Int64 → gz_H → Prop} (hf : gz_g (fX9_lower a0 h) Q) : gz_Cl G mX9_lower (d + 0) 0 0 [.ref a0] h (gz_ql Q) := gz_cl_of (lo := [.ref a0]) (by decide) rfl rfl (Nat.le_of_ble_eq_true rfl) (sX9_lower_0 a0 h hf)
theorem dX9_kindMany_0 : decode cX9_kindMany 0 = .ok (.iconst 0, 1) := by decide +kernel
theorem dX9_kindMany_1 : decode cX9_kindMany 1 = .ok (.istore_n 2, 1) := by decide +kernel
theorem dX9_kindMany_2 : decode cX9_kindMany 2 = .ok (.iconst 0, 1) := by decide +kernel
theorem dX9_kindMany_3 : decode cX9_kindMany 3 = .ok (.istore_n 3, 1) := by decide +kernel
theorem dX9_kindMany_4 : decode cX9_kindMany 4 = .ok (.iload_n 3, 1) := by decide +kernel
theorem dX9_kindMany_5 : decode cX9_kindMany 5 = .ok (.aload_n 0, 1) := by decide +kernel
theorem dX9_kindMany_6 : decode cX9_kindMany 6 = .ok (.getfield 158, 3) := by decide +kernel
theorem dX9_kindMany_9 : decode cX9_kindMany 9 = .ok (.if_icmp .ge 26, 3) := by decide +kernel
theorem dX9_kindMany_12 : decode cX9_kindMany 12 = .ok (.iload_n 2, 1) := by decide +kernel
theorem dX9_kindMany_13 : decode cX9_kindMany 13 = .ok (.aload_n 0, 1) := by decide +kernel
theorem dX9_kindMany_14 : decode cX9_kindMany 14 = .ok (.iload_n 3, 1) := by decide +kernel
theorem dX9_kindMany_15 : decode cX9_kindMany 15 = .ok (.iload_n 1, 1) := by decide +kernel
theorem dX9_kindMany_16 : decode cX9_kindMany 16 = .ok (.invokevirtual 204, 3) := by decide +kernel
theorem dX9_kindMany_19 : decode cX9_kindMany 19 = .ok (.ifCond .eq 7, 3) := by decide +kernel
theorem dX9_kindMany_22 : decode cX9_kindMany 22 = .ok (.iconst 1, 1) := by decide +kernel
theorem dX9_kindMany_23 : decode cX9_kindMany 23 = .ok (.goto 4, 3) := by decide +kernel
theorem dX9_kindMany_26 : decode cX9_kindMany 26 = .ok (.iconst 0, 1) := by decide +kernel
theorem dX9_kindMany_27 : decode cX9_kindMany 27 = .ok (.iadd, 1) := by decide +kernel
theorem dX9_kindMany_28 : decode cX9_kindMany 28 = .ok (.istore_n 2, 1) := by decide +kernel
theorem dX9_kindMany_29 : decode cX9_kindMany 29 = .ok (.iinc 3 1, 3) := by decide +kernel
theorem dX9_kindMany_32 : decode cX9_kindMany 32 = .ok (.goto (-28), 3) := by decide +kernel
theorem dX9_kindMany_35 : decode cX9_kindMany 35 = .ok (.iload_n 2, 1) := by decide +kernel
theorem dX9_kindMany_36 : decode cX9_kindMany 36 = .ok (.ireturn, 1) := by decide +kernel
def fX9_kindMany_27 (k4 : Nat → Int32 → Int32 → Int32 → gz_H → Option (Int32 × gz_H)) (a0 : Nat) (x1 : Int32) (x3 : Int32) (w0 : Int32) (w1 : Int32) (h : gz_H) : Option (Int32 × gz_H) :=
    k4 a0 x1 (w0 + w1) (x3 + 1) h
set_option maxRecDepth 100000 in
set_option maxHeartbeats 1000000 in
theorem sX9_kindMany_27 {G : gz_G} {d l0 s0 : Nat} {Q : Int32 → gz_H → Prop} {k4 : Nat → Int32 → Int32 → Int32 → gz_H → Option (Int32 × gz_H)} (hk4 : ∀ (a0 : Nat) (x1 : Int32) (x2 : Int32) (x3 : Int32) (h : gz_H), gz_g (k4 a0 x1 x2 x3 h) Q → gz_Ok G mX9_kindMany (d + 1, l0, s0, 0, 0) 4 [.ref a0, .int x1, .int x2, .int x3] [] h (gz_qi Q)) (a0 : Nat) (x1 : Int32) (x3 : Int32) (w0 : Int32) (w1 : Int32) (h : gz_H) (hf : gz_g (fX9_kindMany_27 k4 a0 x1 x3 w0 w1 h) Q) : gz_Ok G mX9_kindMany (d + 1, l0, s0, 0, 0) 27 [.ref a0, .int x1, .retAddr 0, .int x3] [.int w1, .int w0] h (gz_qi Q) := by
  unfold fX9_kindMany_27 at hf
  refine gz_iadd (pc := 27) dX9_kindMany_27 ?_
  refine gz_istore_n (lv := [.ref a0, .int x1, .int (w0 + w1), .int x3]) (pc := 28) dX9_kindMany_28 rfl (by decide) rfl ?_
  refine gz_iinc (v := x3 + 1) (lv := [.ref a0, .int x1, .int (w0 + w1), .int (x3 + 1)]) (pc := 29) dX9_kindMany_29 rfl rfl (by decide) rfl ?_
  refine gz_goto (tgt := 4) (pc := 32) dX9_kindMany_32 rfl ?_
  exact hk4 a0 x1 (w0 + w1) (x3 + 1) h hf
def fX9_kindMany_4  : Nat → Nat → Int32 → Int32 → Int32 → gz_H → Option (Int32 × gz_H)
  | 0, _, _, _, _, _ => none
  | n + 1, a0, x1, x2, x3, h =>
    gz_ck (gz_sh h a0 9 29) <|
    if (h.2.1 a0 3) ≤ x3 then (
     some (x2, h)
    ) else (
     gz_b2 (fX9_isOf a0 x3 x1 h) fun y_4 h_3 =>
     if y_4 = 0 then (
      fX9_kindMany_27 (fun z0 z1 z2 z3 zh => fX9_kindMany_4 n z0 z1 z2 z3 zh) a0 x1 x3 x2 (0 : Int32) h_3
     ) else (
      fX9_kindMany_27 (fun z0 z1 z2 z3 zh => fX9_kindMany_4 n z0 z1 z2 z3 zh) a0 x1 x3 x2 (1 : Int32) h_3
     )
    )
set_option maxRecDepth 100000 in
set_option maxHeartbeats 1000000 in
theorem sX9_kindMany_4 {G : gz_G} {d l0 s0 : Nat} {Q : Int32 → gz_H → Prop} : ∀ (n : Nat) (a0 : Nat) (x1 : Int32) (x2 : Int32) (x3 : Int32) (h : gz_H), gz_g (fX9_kindMany_4  n a0 x1 x2 x3 h) Q → gz_Ok G mX9_kindMany (d + 1, l0, s0, 0, 0) 4 [.ref a0, .int x1, .int x2, .int x3] [] h (gz_qi Q) := by
  intro n
  induction n with
  | zero => intro a0 x1 x2 x3 h hf; exact False.elim hf
  | succ n ih =>
    intro a0 x1 x2 x3 h hf
    rw [fX9_kindMany_4] at hf
    refine gz_iload_n (pc := 4) dX9_kindMany_4 rfl rfl ?_
    refine gz_aload_n (pc := 5) dX9_kindMany_5 rfl rfl ?_
    refine gz_gk hf (fun c_1 hf => ?_)
    refine gz_getI (pc := 6) dX9_kindMany_6 fl_RX9_158 rfl (gz_shs c_1) ?_
    refine gz_icmp_ge (tgt := 35) (pc := 9) dX9_kindMany_9 rfl (fun c_2 => ?_) (fun c_2 => ?_)
    · have hf := gz_gT hf c_2
      refine gz_iload_n (pc := 35) dX9_kindMany_35 rfl rfl ?_
      exact gz_irt (pc := 36) dX9_kindMany_36 rfl rfl hf
    · have hf := gz_gF hf c_2
      refine gz_iload_n (pc := 12) dX9_kindMany_12 rfl rfl ?_
      refine gz_aload_n (pc := 13) dX9_kindMany_13 rfl rfl ?_
      refine gz_iload_n (pc := 14) dX9_kindMany_14 rfl rfl ?_
      refine gz_iload_n (pc := 15) dX9_kindMany_15 rfl rfl ?_
      refine gz_cVI (av := [.int x3, .int x1]) (st := [.int x2]) (pc := 16) dX9_kindMany_16 kl_RX9_204 rfl (gz_shs c_1) rfl rfl (Nat.le_of_ble_eq_true rfl) (by show d + 0 + 0 + 1 ≤ d + 1; omega) (sX9_isOf (d := d + 0) (gz_gc hf)) (fun y_4 h_3 hf => ?_)
      refine gz_if_eq (tgt := 26) (pc := 19) dX9_kindMany_19 rfl (fun c_5 => ?_) (fun c_5 => ?_)
      · have hf := gz_gT hf c_5
        refine gz_iconst (v := (0 : Int32)) (pc := 26) dX9_kindMany_26 rfl ?_
        refine gz_fg (lv := [.ref a0, .int x1, .retAddr 0, .int x3]) ⟨Or.inr rfl, ⟨Or.inr rfl, ⟨Or.inl rfl, ⟨Or.inr rfl, trivial⟩⟩⟩⟩ ?_
        exact sX9_kindMany_27 ih a0 x1 x3 x2 (0 : Int32) h_3 hf
      · have hf := gz_gF hf c_5
        refine gz_iconst (v := (1 : Int32)) (pc := 22) dX9_kindMany_22 rfl ?_
        refine gz_goto (tgt := 27) (pc := 23) dX9_kindMany_23 rfl ?_
        refine gz_fg (lv := [.ref a0, .int x1, .retAddr 0, .int x3]) ⟨Or.inr rfl, ⟨Or.inr rfl, ⟨Or.inl rfl, ⟨Or.inr rfl, trivial⟩⟩⟩⟩ ?_
        exact sX9_kindMany_27 ih a0 x1 x3 x2 (1 : Int32) h_3 hf
def fX9_kindMany_0  (a0 : Nat) (x1 : Int32) (h : gz_H) : Option (Int32 × gz_H) :=
    fX9_kindMany_4 gz_fu a0 x1 (0 : Int32) (0 : Int32) h
set_option maxRecDepth 100000 in
set_option maxHeartbeats 1000000 in
theorem sX9_kindMany_0 {G : gz_G} {d l0 s0 : Nat} {Q : Int32 → gz_H → Prop} (a0 : Nat) (x1 : Int32) (h : gz_H) (hf : gz_g (fX9_kindMany_0  a0 x1 h) Q) : gz_Ok G mX9_kindMany (d + 1, l0, s0, 0, 0) 0 [.ref a0, .int x1, .retAddr 0, .retAddr 0] [] h (gz_qi Q) := by
  unfold fX9_kindMany_0 at hf
  refine gz_iconst (v := (0 : Int32)) (pc := 0) dX9_kindMany_0 rfl ?_
  refine gz_istore_n (lv := [.ref a0, .int x1, .int (0 : Int32), .retAddr 0]) (pc := 1) dX9_kindMany_1 rfl (by decide) rfl ?_
  refine gz_iconst (v := (0 : Int32)) (pc := 2) dX9_kindMany_2 rfl ?_
  refine gz_istore_n (lv := [.ref a0, .int x1, .int (0 : Int32), .int (0 : Int32)]) (pc := 3) dX9_kindMany_3 rfl (by decide) rfl ?_
  exact sX9_kindMany_4 gz_fu a0 x1 (0 : Int32) (0 : Int32) h hf
def fX9_kindMany (a0 : Nat) (x1 : Int32) (h : gz_H) : Option (Int32 × gz_H) := fX9_kindMany_0 a0 x1 h
theorem sX9_kindMany {G : gz_G} {d : Nat} {a0 : Nat} {x1 : Int32} {h : gz_H} {Q : Int32 → gz_H → Prop} (hf : gz_g (fX9_kindMany a0 x1 h) Q) : gz_Cl G mX9_kindMany (d + 1) 0 0 [.ref a0, .int x1] h (gz_qi Q) := gz_cl_of (lo := [.ref a0, .int x1, .retAddr 0, .retAddr 0]) (by decide) rfl rfl (Nat.le_of_ble_eq_true rfl) (sX9_kindMany_0 a0 x1 h hf)
theorem dX9_thereOf_0 : decode cX9_thereOf 0 = .ok (.iconst 0, 1) := by decide +kernel
theorem dX9_thereOf_1 : decode cX9_thereOf 1 = .ok (.istore_n 2, 1) := by decide +kernel
theorem dX9_thereOf_2 : decode cX9_thereOf 2 = .ok (.iconst 0, 1) := by decide +kernel
theorem dX9_thereOf_3 : decode cX9_thereOf 3 = .ok (.istore_n 3, 1) := by decide +kernel
theorem dX9_thereOf_4 : decode cX9_thereOf 4 = .ok (.iload_n 3, 1) := by decide +kernel
theorem dX9_thereOf_5 : decode cX9_thereOf 5 = .ok (.bipush 6, 2) := by decide +kernel
theorem dX9_thereOf_7 : decode cX9_thereOf 7 = .ok (.if_icmp .ge 90, 3) := by decide +kernel
theorem dX9_thereOf_10 : decode cX9_thereOf 10 = .ok (.iload_n 2, 1) := by decide +kernel
theorem dX9_thereOf_11 : decode cX9_thereOf 11 = .ok (.iload_n 1, 1) := by decide +kernel
theorem dX9_thereOf_12 : decode cX9_thereOf 12 = .ok (.bipush 6, 2) := by decide +kernel
theorem dX9_thereOf_14 : decode cX9_thereOf 14 = .ok (.if_icmp .ne 20, 3) := by decide +kernel
theorem dX9_thereOf_17 : decode cX9_thereOf 17 = .ok (.aload_n 0, 1) := by decide +kernel
theorem dX9_thereOf_18 : decode cX9_thereOf 18 = .ok (.getfield 25, 3) := by decide +kernel
theorem dX9_thereOf_21 : decode cX9_thereOf 21 = .ok (.iload_n 3, 1) := by decide +kernel
theorem dX9_thereOf_22 : decode cX9_thereOf 22 = .ok (.iaload, 1) := by decide +kernel
theorem dX9_thereOf_23 : decode cX9_thereOf 23 = .ok (.ifCond .ge 7, 3) := by decide +kernel
theorem dX9_thereOf_26 : decode cX9_thereOf 26 = .ok (.iconst 0, 1) := by decide +kernel
theorem dX9_thereOf_27 : decode cX9_thereOf 27 = .ok (.goto 62, 3) := by decide +kernel
theorem dX9_thereOf_30 : decode cX9_thereOf 30 = .ok (.iconst 1, 1) := by decide +kernel
theorem dX9_thereOf_31 : decode cX9_thereOf 31 = .ok (.goto 58, 3) := by decide +kernel
theorem dX9_thereOf_34 : decode cX9_thereOf 34 = .ok (.iload_n 1, 1) := by decide +kernel
theorem dX9_thereOf_35 : decode cX9_thereOf 35 = .ok (.bipush 7, 2) := by decide +kernel
theorem dX9_thereOf_37 : decode cX9_thereOf 37 = .ok (.if_icmp .ne 25, 3) := by decide +kernel
theorem dX9_thereOf_40 : decode cX9_thereOf 40 = .ok (.iload_n 3, 1) := by decide +kernel
theorem dX9_thereOf_41 : decode cX9_thereOf 41 = .ok (.iconst 4, 1) := by decide +kernel
theorem dX9_thereOf_42 : decode cX9_thereOf 42 = .ok (.if_icmp .ge 16, 3) := by decide +kernel
theorem dX9_thereOf_45 : decode cX9_thereOf 45 = .ok (.aload_n 0, 1) := by decide +kernel
theorem dX9_thereOf_46 : decode cX9_thereOf 46 = .ok (.getfield 31, 3) := by decide +kernel
theorem dX9_thereOf_49 : decode cX9_thereOf 49 = .ok (.iload_n 3, 1) := by decide +kernel
theorem dX9_thereOf_50 : decode cX9_thereOf 50 = .ok (.iaload, 1) := by decide +kernel
theorem dX9_thereOf_51 : decode cX9_thereOf 51 = .ok (.ifCond .lt 7, 3) := by decide +kernel
theorem dX9_thereOf_54 : decode cX9_thereOf 54 = .ok (.iconst 1, 1) := by decide +kernel
theorem dX9_thereOf_55 : decode cX9_thereOf 55 = .ok (.goto 34, 3) := by decide +kernel
theorem dX9_thereOf_58 : decode cX9_thereOf 58 = .ok (.iconst 0, 1) := by decide +kernel
theorem dX9_thereOf_59 : decode cX9_thereOf 59 = .ok (.goto 30, 3) := by decide +kernel
theorem dX9_thereOf_62 : decode cX9_thereOf 62 = .ok (.iload_n 3, 1) := by decide +kernel
theorem dX9_thereOf_63 : decode cX9_thereOf 63 = .ok (.iconst 3, 1) := by decide +kernel
theorem dX9_thereOf_64 : decode cX9_thereOf 64 = .ok (.if_icmp .ge 24, 3) := by decide +kernel
theorem dX9_thereOf_67 : decode cX9_thereOf 67 = .ok (.aload_n 0, 1) := by decide +kernel
theorem dX9_thereOf_68 : decode cX9_thereOf 68 = .ok (.getfield 7, 3) := by decide +kernel
theorem dX9_thereOf_71 : decode cX9_thereOf 71 = .ok (.sipush 2256, 3) := by decide +kernel
theorem dX9_thereOf_74 : decode cX9_thereOf 74 = .ok (.iconst 1, 1) := by decide +kernel
theorem dX9_thereOf_75 : decode cX9_thereOf 75 = .ok (.iload_n 3, 1) := by decide +kernel
theorem dX9_thereOf_76 : decode cX9_thereOf 76 = .ok (.iadd, 1) := by decide +kernel
theorem dX9_thereOf_77 : decode cX9_thereOf 77 = .ok (.imul, 1) := by decide +kernel
theorem dX9_thereOf_78 : decode cX9_thereOf 78 = .ok (.iconst 0, 1) := by decide +kernel
theorem dX9_thereOf_79 : decode cX9_thereOf 79 = .ok (.iadd, 1) := by decide +kernel
theorem dX9_thereOf_80 : decode cX9_thereOf 80 = .ok (.iaload, 1) := by decide +kernel
theorem dX9_thereOf_81 : decode cX9_thereOf 81 = .ok (.ifCond .lt 7, 3) := by decide +kernel
theorem dX9_thereOf_84 : decode cX9_thereOf 84 = .ok (.iconst 1, 1) := by decide +kernel
theorem dX9_thereOf_85 : decode cX9_thereOf 85 = .ok (.goto 4, 3) := by decide +kernel
theorem dX9_thereOf_88 : decode cX9_thereOf 88 = .ok (.iconst 0, 1) := by decide +kernel
theorem dX9_thereOf_89 : decode cX9_thereOf 89 = .ok (.iadd, 1) := by decide +kernel
theorem dX9_thereOf_90 : decode cX9_thereOf 90 = .ok (.istore_n 2, 1) := by decide +kernel
theorem dX9_thereOf_91 : decode cX9_thereOf 91 = .ok (.iinc 3 1, 3) := by decide +kernel
theorem dX9_thereOf_94 : decode cX9_thereOf 94 = .ok (.goto (-90), 3) := by decide +kernel
theorem dX9_thereOf_97 : decode cX9_thereOf 97 = .ok (.iload_n 2, 1) := by decide +kernel
theorem dX9_thereOf_98 : decode cX9_thereOf 98 = .ok (.ireturn, 1) := by decide +kernel
def fX9_thereOf_89 (k4 : Nat → Int32 → Int32 → Int32 → gz_H → Option (Int32 × gz_H)) (a0 : Nat) (x1 : Int32) (x3 : Int32) (w0 : Int32) (w1 : Int32) (h : gz_H) : Option (Int32 × gz_H) :=
    k4 a0 x1 (w0 + w1) (x3 + 1) h
set_option maxRecDepth 100000 in
set_option maxHeartbeats 1000000 in
theorem sX9_thereOf_89 {G : gz_G} {d l0 s0 : Nat} {Q : Int32 → gz_H → Prop} {k4 : Nat → Int32 → Int32 → Int32 → gz_H → Option (Int32 × gz_H)} (hk4 : ∀ (a0 : Nat) (x1 : Int32) (x2 : Int32) (x3 : Int32) (h : gz_H), gz_g (k4 a0 x1 x2 x3 h) Q → gz_Ok G mX9_thereOf (d + 0, l0, s0, 0, 0) 4 [.ref a0, .int x1, .int x2, .int x3] [] h (gz_qi Q)) (a0 : Nat) (x1 : Int32) (x3 : Int32) (w0 : Int32) (w1 : Int32) (h : gz_H) (hf : gz_g (fX9_thereOf_89 k4 a0 x1 x3 w0 w1 h) Q) : gz_Ok G mX9_thereOf (d + 0, l0, s0, 0, 0) 89 [.ref a0, .int x1, .retAddr 0, .int x3] [.int w1, .int w0] h (gz_qi Q) := by
  unfold fX9_thereOf_89 at hf
  refine gz_iadd (pc := 89) dX9_thereOf_89 ?_
  refine gz_istore_n (lv := [.ref a0, .int x1, .int (w0 + w1), .int x3]) (pc := 90) dX9_thereOf_90 rfl (by decide) rfl ?_
  refine gz_iinc (v := x3 + 1) (lv := [.ref a0, .int x1, .int (w0 + w1), .int (x3 + 1)]) (pc := 91) dX9_thereOf_91 rfl rfl (by decide) rfl ?_
  refine gz_goto (tgt := 4) (pc := 94) dX9_thereOf_94 rfl ?_
  exact hk4 a0 x1 (w0 + w1) (x3 + 1) h hf
def fX9_thereOf_58 (k4 : Nat → Int32 → Int32 → Int32 → gz_H → Option (Int32 × gz_H)) (a0 : Nat) (x1 : Int32) (x3 : Int32) (w0 : Int32) (h : gz_H) : Option (Int32 × gz_H) :=
    fX9_thereOf_89 k4 a0 x1 x3 w0 (0 : Int32) h
set_option maxRecDepth 100000 in
set_option maxHeartbeats 1000000 in
theorem sX9_thereOf_58 {G : gz_G} {d l0 s0 : Nat} {Q : Int32 → gz_H → Prop} {k4 : Nat → Int32 → Int32 → Int32 → gz_H → Option (Int32 × gz_H)} (hk4 : ∀ (a0 : Nat) (x1 : Int32) (x2 : Int32) (x3 : Int32) (h : gz_H), gz_g (k4 a0 x1 x2 x3 h) Q → gz_Ok G mX9_thereOf (d + 0, l0, s0, 0, 0) 4 [.ref a0, .int x1, .int x2, .int x3] [] h (gz_qi Q)) (a0 : Nat) (x1 : Int32) (x3 : Int32) (w0 : Int32) (h : gz_H) (hf : gz_g (fX9_thereOf_58 k4 a0 x1 x3 w0 h) Q) : gz_Ok G mX9_thereOf (d + 0, l0, s0, 0, 0) 58 [.ref a0, .int x1, .retAddr 0, .int x3] [.int w0] h (gz_qi Q) := by
  unfold fX9_thereOf_58 at hf
  refine gz_iconst (v := (0 : Int32)) (pc := 58) dX9_thereOf_58 rfl ?_
  refine gz_goto (tgt := 89) (pc := 59) dX9_thereOf_59 rfl ?_
  exact sX9_thereOf_89 hk4 a0 x1 x3 w0 (0 : Int32) h hf
def fX9_thereOf_88 (k4 : Nat → Int32 → Int32 → Int32 → gz_H → Option (Int32 × gz_H)) (a0 : Nat) (x1 : Int32) (x3 : Int32) (w0 : Int32) (h : gz_H) : Option (Int32 × gz_H) :=
    fX9_thereOf_89 k4 a0 x1 x3 w0 (0 : Int32) h
set_option maxRecDepth 100000 in
set_option maxHeartbeats 1000000 in
theorem sX9_thereOf_88 {G : gz_G} {d l0 s0 : Nat} {Q : Int32 → gz_H → Prop} {k4 : Nat → Int32 → Int32 → Int32 → gz_H → Option (Int32 × gz_H)} (hk4 : ∀ (a0 : Nat) (x1 : Int32) (x2 : Int32) (x3 : Int32) (h : gz_H), gz_g (k4 a0 x1 x2 x3 h) Q → gz_Ok G mX9_thereOf (d + 0, l0, s0, 0, 0) 4 [.ref a0, .int x1, .int x2, .int x3] [] h (gz_qi Q)) (a0 : Nat) (x1 : Int32) (x3 : Int32) (w0 : Int32) (h : gz_H) (hf : gz_g (fX9_thereOf_88 k4 a0 x1 x3 w0 h) Q) : gz_Ok G mX9_thereOf (d + 0, l0, s0, 0, 0) 88 [.ref a0, .int x1, .retAddr 0, .int x3] [.int w0] h (gz_qi Q) := by
  unfold fX9_thereOf_88 at hf
  refine gz_iconst (v := (0 : Int32)) (pc := 88) dX9_thereOf_88 rfl ?_
  exact sX9_thereOf_89 hk4 a0 x1 x3 w0 (0 : Int32) h hf
def fX9_thereOf_4  : Nat → Nat → Int32 → Int32 → Int32 → gz_H → Option (Int32 × gz_H)
  | 0, _, _, _, _, _ => none
  | n + 1, a0, x1, x2, x3, h =>
    if (6 : Int32) ≤ x3 then (
     some (x2, h)
    ) else (
     if x1 = (6 : Int32) then (
      gz_ck (gz_sh h a0 9 29) <|
      gz_br (h.2.2.2 a0 7) fun r_15 =>
      gz_ck (gz_inb h r_15 10 x3) <|
      if 0 ≤ (h.2.1 r_15 x3.toNatClampNeg) then (
       fX9_thereOf_89 (fun z0 z1 z2 z3 zh => fX9_thereOf_4 n z0 z1 z2 z3 zh) a0 x1 x3 x2 (1 : Int32) h
      ) else (
       fX9_thereOf_89 (fun z0 z1 z2 z3 zh => fX9_thereOf_4 n z0 z1 z2 z3 zh) a0 x1 x3 x2 (0 : Int32) h
      )
     ) else (
      if x1 = (7 : Int32) then (
       if (4 : Int32) ≤ x3 then (
        fX9_thereOf_58 (fun z0 z1 z2 z3 zh => fX9_thereOf_4 n z0 z1 z2 z3 zh) a0 x1 x3 x2 h
       ) else (
        gz_ck (gz_sh h a0 9 29) <|
        gz_br (h.2.2.2 a0 9) fun r_11 =>
        gz_ck (gz_inb h r_11 10 x3) <|
        if (h.2.1 r_11 x3.toNatClampNeg) < 0 then (
         fX9_thereOf_58 (fun z0 z1 z2 z3 zh => fX9_thereOf_4 n z0 z1 z2 z3 zh) a0 x1 x3 x2 h
        ) else (
         fX9_thereOf_89 (fun z0 z1 z2 z3 zh => fX9_thereOf_4 n z0 z1 z2 z3 zh) a0 x1 x3 x2 (1 : Int32) h
        )
       )
      ) else (
       if (3 : Int32) ≤ x3 then (
        fX9_thereOf_88 (fun z0 z1 z2 z3 zh => fX9_thereOf_4 n z0 z1 z2 z3 zh) a0 x1 x3 x2 h
       ) else (
        gz_ck (gz_sh h a0 9 29) <|
        gz_br (h.2.2.2 a0 0) fun r_6 =>
        gz_ck (gz_inb h r_6 10 (((2256 : Int32) * ((1 : Int32) + x3)) + (0 : Int32))) <|
        if (h.2.1 r_6 (((2256 : Int32) * ((1 : Int32) + x3)) + (0 : Int32)).toNatClampNeg) < 0 then (
         fX9_thereOf_88 (fun z0 z1 z2 z3 zh => fX9_thereOf_4 n z0 z1 z2 z3 zh) a0 x1 x3 x2 h
        ) else (
         fX9_thereOf_89 (fun z0 z1 z2 z3 zh => fX9_thereOf_4 n z0 z1 z2 z3 zh) a0 x1 x3 x2 (1 : Int32) h
        )
       )
      )
     )
    )
set_option maxRecDepth 100000 in
set_option maxHeartbeats 1000000 in
theorem sX9_thereOf_4 {G : gz_G} {d l0 s0 : Nat} {Q : Int32 → gz_H → Prop} : ∀ (n : Nat) (a0 : Nat) (x1 : Int32) (x2 : Int32) (x3 : Int32) (h : gz_H), gz_g (fX9_thereOf_4  n a0 x1 x2 x3 h) Q → gz_Ok G mX9_thereOf (d + 0, l0, s0, 0, 0) 4 [.ref a0, .int x1, .int x2, .int x3] [] h (gz_qi Q) := by
  intro n
  induction n with
  | zero => intro a0 x1 x2 x3 h hf; exact False.elim hf
  | succ n ih =>
    intro a0 x1 x2 x3 h hf
    rw [fX9_thereOf_4] at hf
    refine gz_iload_n (pc := 4) dX9_thereOf_4 rfl rfl ?_
    refine gz_bipush (v := (6 : Int32)) (pc := 5) dX9_thereOf_5 rfl ?_
    refine gz_icmp_ge (tgt := 97) (pc := 7) dX9_thereOf_7 rfl (fun c_1 => ?_) (fun c_1 => ?_)
    · have hf := gz_gT hf c_1
      refine gz_iload_n (pc := 97) dX9_thereOf_97 rfl rfl ?_
      exact gz_irt (pc := 98) dX9_thereOf_98 rfl rfl hf
    · have hf := gz_gF hf c_1
      refine gz_iload_n (pc := 10) dX9_thereOf_10 rfl rfl ?_
      refine gz_iload_n (pc := 11) dX9_thereOf_11 rfl rfl ?_
      refine gz_bipush (v := (6 : Int32)) (pc := 12) dX9_thereOf_12 rfl ?_
      refine gz_icmp_ne (tgt := 34) (pc := 14) dX9_thereOf_14 rfl (fun c_2 => ?_) (fun c_2 => ?_)
      · have hf := gz_gF hf c_2
        refine gz_iload_n (pc := 34) dX9_thereOf_34 rfl rfl ?_
        refine gz_bipush (v := (7 : Int32)) (pc := 35) dX9_thereOf_35 rfl ?_
        refine gz_icmp_ne (tgt := 62) (pc := 37) dX9_thereOf_37 rfl (fun c_3 => ?_) (fun c_3 => ?_)
        · have hf := gz_gF hf c_3
          refine gz_iload_n (pc := 62) dX9_thereOf_62 rfl rfl ?_
          refine gz_iconst (v := (3 : Int32)) (pc := 63) dX9_thereOf_63 rfl ?_
          refine gz_icmp_ge (tgt := 88) (pc := 64) dX9_thereOf_64 rfl (fun c_4 => ?_) (fun c_4 => ?_)
          · have hf := gz_gT hf c_4
            refine gz_fg (lv := [.ref a0, .int x1, .retAddr 0, .int x3]) ⟨Or.inr rfl, ⟨Or.inr rfl, ⟨Or.inl rfl, ⟨Or.inr rfl, trivial⟩⟩⟩⟩ ?_
            exact sX9_thereOf_88 ih a0 x1 x3 x2 h hf
          · have hf := gz_gF hf c_4
            refine gz_aload_n (pc := 67) dX9_thereOf_67 rfl rfl ?_
            refine gz_gk hf (fun c_5 hf => ?_)
            refine gz_gb hf (fun r_6 er_6 hf => ?_)
            refine gz_getR (pc := 68) dX9_thereOf_68 fl_RX9_7 rfl (gz_shs c_5) er_6 ?_
            refine gz_sipush (v := (2256 : Int32)) (pc := 71) dX9_thereOf_71 rfl ?_
            refine gz_iconst (v := (1 : Int32)) (pc := 74) dX9_thereOf_74 rfl ?_
            refine gz_iload_n (pc := 75) dX9_thereOf_75 rfl rfl ?_
            refine gz_iadd (pc := 76) dX9_thereOf_76 ?_
            refine gz_imul (pc := 77) dX9_thereOf_77 ?_
            refine gz_iconst (v := (0 : Int32)) (pc := 78) dX9_thereOf_78 rfl ?_
            refine gz_iadd (pc := 79) dX9_thereOf_79 ?_
            refine gz_gk hf (fun c_7 hf => ?_)
            refine gz_iald (pc := 80) dX9_thereOf_80 c_7 ?_
            refine gz_if_lt (tgt := 88) (pc := 81) dX9_thereOf_81 rfl (fun c_8 => ?_) (fun c_8 => ?_)
            · have hf := gz_gT hf c_8
              refine gz_fg (lv := [.ref a0, .int x1, .retAddr 0, .int x3]) ⟨Or.inr rfl, ⟨Or.inr rfl, ⟨Or.inl rfl, ⟨Or.inr rfl, trivial⟩⟩⟩⟩ ?_
              exact sX9_thereOf_88 ih a0 x1 x3 x2 h hf
            · have hf := gz_gF hf c_8
              refine gz_iconst (v := (1 : Int32)) (pc := 84) dX9_thereOf_84 rfl ?_
              refine gz_goto (tgt := 89) (pc := 85) dX9_thereOf_85 rfl ?_
              refine gz_fg (lv := [.ref a0, .int x1, .retAddr 0, .int x3]) ⟨Or.inr rfl, ⟨Or.inr rfl, ⟨Or.inl rfl, ⟨Or.inr rfl, trivial⟩⟩⟩⟩ ?_
              exact sX9_thereOf_89 ih a0 x1 x3 x2 (1 : Int32) h hf
        · have hf := gz_gT hf c_3
          refine gz_iload_n (pc := 40) dX9_thereOf_40 rfl rfl ?_
          refine gz_iconst (v := (4 : Int32)) (pc := 41) dX9_thereOf_41 rfl ?_
          refine gz_icmp_ge (tgt := 58) (pc := 42) dX9_thereOf_42 rfl (fun c_9 => ?_) (fun c_9 => ?_)
          · have hf := gz_gT hf c_9
            refine gz_fg (lv := [.ref a0, .int x1, .retAddr 0, .int x3]) ⟨Or.inr rfl, ⟨Or.inr rfl, ⟨Or.inl rfl, ⟨Or.inr rfl, trivial⟩⟩⟩⟩ ?_
            exact sX9_thereOf_58 ih a0 x1 x3 x2 h hf
          · have hf := gz_gF hf c_9
            refine gz_aload_n (pc := 45) dX9_thereOf_45 rfl rfl ?_
            refine gz_gk hf (fun c_10 hf => ?_)
            refine gz_gb hf (fun r_11 er_11 hf => ?_)
            refine gz_getR (pc := 46) dX9_thereOf_46 fl_RX9_31 rfl (gz_shs c_10) er_11 ?_
            refine gz_iload_n (pc := 49) dX9_thereOf_49 rfl rfl ?_
            refine gz_gk hf (fun c_12 hf => ?_)
            refine gz_iald (pc := 50) dX9_thereOf_50 c_12 ?_
            refine gz_if_lt (tgt := 58) (pc := 51) dX9_thereOf_51 rfl (fun c_13 => ?_) (fun c_13 => ?_)
            · have hf := gz_gT hf c_13
              refine gz_fg (lv := [.ref a0, .int x1, .retAddr 0, .int x3]) ⟨Or.inr rfl, ⟨Or.inr rfl, ⟨Or.inl rfl, ⟨Or.inr rfl, trivial⟩⟩⟩⟩ ?_
              exact sX9_thereOf_58 ih a0 x1 x3 x2 h hf
            · have hf := gz_gF hf c_13
              refine gz_iconst (v := (1 : Int32)) (pc := 54) dX9_thereOf_54 rfl ?_
              refine gz_goto (tgt := 89) (pc := 55) dX9_thereOf_55 rfl ?_
              refine gz_fg (lv := [.ref a0, .int x1, .retAddr 0, .int x3]) ⟨Or.inr rfl, ⟨Or.inr rfl, ⟨Or.inl rfl, ⟨Or.inr rfl, trivial⟩⟩⟩⟩ ?_
              exact sX9_thereOf_89 ih a0 x1 x3 x2 (1 : Int32) h hf
      · have hf := gz_gT hf c_2
        refine gz_aload_n (pc := 17) dX9_thereOf_17 rfl rfl ?_
        refine gz_gk hf (fun c_14 hf => ?_)
        refine gz_gb hf (fun r_15 er_15 hf => ?_)
        refine gz_getR (pc := 18) dX9_thereOf_18 fl_RX9_25 rfl (gz_shs c_14) er_15 ?_
        refine gz_iload_n (pc := 21) dX9_thereOf_21 rfl rfl ?_
        refine gz_gk hf (fun c_16 hf => ?_)
        refine gz_iald (pc := 22) dX9_thereOf_22 c_16 ?_
        refine gz_if_ge (tgt := 30) (pc := 23) dX9_thereOf_23 rfl (fun c_17 => ?_) (fun c_17 => ?_)
        · have hf := gz_gT hf c_17
          refine gz_iconst (v := (1 : Int32)) (pc := 30) dX9_thereOf_30 rfl ?_
          refine gz_goto (tgt := 89) (pc := 31) dX9_thereOf_31 rfl ?_
          refine gz_fg (lv := [.ref a0, .int x1, .retAddr 0, .int x3]) ⟨Or.inr rfl, ⟨Or.inr rfl, ⟨Or.inl rfl, ⟨Or.inr rfl, trivial⟩⟩⟩⟩ ?_
          exact sX9_thereOf_89 ih a0 x1 x3 x2 (1 : Int32) h hf
        · have hf := gz_gF hf c_17
          refine gz_iconst (v := (0 : Int32)) (pc := 26) dX9_thereOf_26 rfl ?_
          refine gz_goto (tgt := 89) (pc := 27) dX9_thereOf_27 rfl ?_
          refine gz_fg (lv := [.ref a0, .int x1, .retAddr 0, .int x3]) ⟨Or.inr rfl, ⟨Or.inr rfl, ⟨Or.inl rfl, ⟨Or.inr rfl, trivial⟩⟩⟩⟩ ?_
          exact sX9_thereOf_89 ih a0 x1 x3 x2 (0 : Int32) h hf
def fX9_thereOf_0  (a0 : Nat) (x1 : Int32) (h : gz_H) : Option (Int32 × gz_H) :=
    fX9_thereOf_4 gz_fu a0 x1 (0 : Int32) (0 : Int32) h
set_option maxRecDepth 100000 in
set_option maxHeartbeats 1000000 in
theorem sX9_thereOf_0 {G : gz_G} {d l0 s0 : Nat} {Q : Int32 → gz_H → Prop} (a0 : Nat) (x1 : Int32) (h : gz_H) (hf : gz_g (fX9_thereOf_0  a0 x1 h) Q) : gz_Ok G mX9_thereOf (d + 0, l0, s0, 0, 0) 0 [.ref a0, .int x1, .retAddr 0, .retAddr 0] [] h (gz_qi Q) := by
  unfold fX9_thereOf_0 at hf
  refine gz_iconst (v := (0 : Int32)) (pc := 0) dX9_thereOf_0 rfl ?_
  refine gz_istore_n (lv := [.ref a0, .int x1, .int (0 : Int32), .retAddr 0]) (pc := 1) dX9_thereOf_1 rfl (by decide) rfl ?_
  refine gz_iconst (v := (0 : Int32)) (pc := 2) dX9_thereOf_2 rfl ?_
  refine gz_istore_n (lv := [.ref a0, .int x1, .int (0 : Int32), .int (0 : Int32)]) (pc := 3) dX9_thereOf_3 rfl (by decide) rfl ?_
  exact sX9_thereOf_4 gz_fu a0 x1 (0 : Int32) (0 : Int32) h hf
def fX9_thereOf (a0 : Nat) (x1 : Int32) (h : gz_H) : Option (Int32 × gz_H) := fX9_thereOf_0 a0 x1 h
theorem sX9_thereOf {G : gz_G} {d : Nat} {a0 : Nat} {x1 : Int32} {h : gz_H} {Q : Int32 → gz_H → Prop} (hf : gz_g (fX9_thereOf a0 x1 h) Q) : gz_Cl G mX9_thereOf (d + 0) 0 0 [.ref a0, .int x1] h (gz_qi Q) := gz_cl_of (lo := [.ref a0, .int x1, .retAddr 0, .retAddr 0]) (by decide) rfl rfl (Nat.le_of_ble_eq_true rfl) (sX9_thereOf_0 a0 x1 h hf)
theorem dX9_countOf_0 : decode cX9_countOf 0 = .ok (.iload_n 1, 1) := by decide +kernel
theorem dX9_countOf_1 : decode cX9_countOf 1 = .ok (.tableswitch 83 0 5 #[39, 44, 49, 64, 71, 77], 39) := by decide +kernel
theorem dX9_countOf_40 : decode cX9_countOf 40 = .ok (.aload_n 0, 1) := by decide +kernel
theorem dX9_countOf_41 : decode cX9_countOf 41 = .ok (.getfield 158, 3) := by decide +kernel
theorem dX9_countOf_44 : decode cX9_countOf 44 = .ok (.ireturn, 1) := by decide +kernel
theorem dX9_countOf_45 : decode cX9_countOf 45 = .ok (.aload_n 0, 1) := by decide +kernel
theorem dX9_countOf_46 : decode cX9_countOf 46 = .ok (.getfield 155, 3) := by decide +kernel
theorem dX9_countOf_49 : decode cX9_countOf 49 = .ok (.ireturn, 1) := by decide +kernel
theorem dX9_countOf_50 : decode cX9_countOf 50 = .ok (.aload_n 0, 1) := by decide +kernel
theorem dX9_countOf_51 : decode cX9_countOf 51 = .ok (.getfield 158, 3) := by decide +kernel
theorem dX9_countOf_54 : decode cX9_countOf 54 = .ok (.aload_n 0, 1) := by decide +kernel
theorem dX9_countOf_55 : decode cX9_countOf 55 = .ok (.getfield 7, 3) := by decide +kernel
theorem dX9_countOf_58 : decode cX9_countOf 58 = .ok (.iconst 1, 1) := by decide +kernel
theorem dX9_countOf_59 : decode cX9_countOf 59 = .ok (.iaload, 1) := by decide +kernel
theorem dX9_countOf_60 : decode cX9_countOf 60 = .ok (.invokestatic 193, 3) := by decide +kernel
theorem dX9_countOf_63 : decode cX9_countOf 63 = .ok (.isub, 1) := by decide +kernel
theorem dX9_countOf_64 : decode cX9_countOf 64 = .ok (.ireturn, 1) := by decide +kernel
theorem dX9_countOf_65 : decode cX9_countOf 65 = .ok (.aload_n 0, 1) := by decide +kernel
theorem dX9_countOf_66 : decode cX9_countOf 66 = .ok (.getfield 7, 3) := by decide +kernel
theorem dX9_countOf_69 : decode cX9_countOf 69 = .ok (.iconst 0, 1) := by decide +kernel
theorem dX9_countOf_70 : decode cX9_countOf 70 = .ok (.iaload, 1) := by decide +kernel
theorem dX9_countOf_71 : decode cX9_countOf 71 = .ok (.ireturn, 1) := by decide +kernel
theorem dX9_countOf_72 : decode cX9_countOf 72 = .ok (.aload_n 0, 1) := by decide +kernel
theorem dX9_countOf_73 : decode cX9_countOf 73 = .ok (.iconst 1, 1) := by decide +kernel
theorem dX9_countOf_74 : decode cX9_countOf 74 = .ok (.invokevirtual 320, 3) := by decide +kernel
theorem dX9_countOf_77 : decode cX9_countOf 77 = .ok (.ireturn, 1) := by decide +kernel
theorem dX9_countOf_78 : decode cX9_countOf 78 = .ok (.aload_n 0, 1) := by decide +kernel
theorem dX9_countOf_79 : decode cX9_countOf 79 = .ok (.iconst 3, 1) := by decide +kernel
theorem dX9_countOf_80 : decode cX9_countOf 80 = .ok (.invokevirtual 320, 3) := by decide +kernel
theorem dX9_countOf_83 : decode cX9_countOf 83 = .ok (.ireturn, 1) := by decide +kernel
theorem dX9_countOf_84 : decode cX9_countOf 84 = .ok (.aload_n 0, 1) := by decide +kernel
theorem dX9_countOf_85 : decode cX9_countOf 85 = .ok (.iload_n 1, 1) := by decide +kernel
theorem dX9_countOf_86 : decode cX9_countOf 86 = .ok (.invokevirtual 323, 3) := by decide +kernel
theorem dX9_countOf_89 : decode cX9_countOf 89 = .ok (.ireturn, 1) := by decide +kernel
def fX9_countOf_0  (a0 : Nat) (x1 : Int32) (h : gz_H) : Option (Int32 × gz_H) :=
    if x1 = (0 : Int32) then (
     gz_ck (gz_sh h a0 9 29) <|
     some (h.2.1 a0 3, h)
    ) else (
    if x1 = (1 : Int32) then (
     gz_ck (gz_sh h a0 9 29) <|
     some (h.2.1 a0 1, h)
    ) else (
    if x1 = (2 : Int32) then (
     gz_ck (gz_sh h a0 9 29) <|
     gz_br (h.2.2.2 a0 0) fun r_7 =>
     gz_ck (gz_inb h r_7 10 (1 : Int32)) <|
     gz_b2 (fX9_bits (h.2.1 r_7 (1 : Int32).toNatClampNeg) h) fun y_10 h_9 =>
     some ((h.2.1 a0 3) - y_10, h_9)
    ) else (
    if x1 = (3 : Int32) then (
     gz_ck (gz_sh h a0 9 29) <|
     gz_br (h.2.2.2 a0 0) fun r_13 =>
     gz_ck (gz_inb h r_13 10 (0 : Int32)) <|
     some (h.2.1 r_13 (0 : Int32).toNatClampNeg, h)
    ) else (
    if x1 = (4 : Int32) then (
     gz_ck (gz_sh h a0 9 29) <|
     gz_b2 (fX9_kindMany a0 (1 : Int32) h) fun y_17 h_16 =>
     some (y_17, h_16)
    ) else (
    if x1 = (5 : Int32) then (
     gz_ck (gz_sh h a0 9 29) <|
     gz_b2 (fX9_kindMany a0 (3 : Int32) h) fun y_21 h_20 =>
     some (y_21, h_20)
    ) else (
    gz_ck (gz_sh h a0 9 29) <|
    gz_b2 (fX9_thereOf a0 x1 h) fun y_24 h_23 =>
    some (y_24, h_23)
    ))))))
set_option maxRecDepth 100000 in
set_option maxHeartbeats 1000000 in
theorem sX9_countOf_0 {G : gz_G} {d l0 s0 : Nat} {Q : Int32 → gz_H → Prop} (a0 : Nat) (x1 : Int32) (h : gz_H) (hf : gz_g (fX9_countOf_0  a0 x1 h) Q) : gz_Ok G mX9_countOf (d + 2, l0, s0, 0, 0) 0 [.ref a0, .int x1] [] h (gz_qi Q) := by
  unfold fX9_countOf_0 at hf
  refine gz_iload_n (pc := 0) dX9_countOf_0 rfl rfl ?_
  by_cases c_1 : x1 = (0 : Int32)
  · have hf := gz_gT hf c_1
    refine gz_tIn (off := 39) (tgt := 40) (pc := 1) dX9_countOf_1 (by rw [c_1]; decide) (by rw [c_1]; decide) (by rw [c_1]; decide) rfl ?_
    refine gz_aload_n (pc := 40) dX9_countOf_40 rfl rfl ?_
    refine gz_gk hf (fun c_2 hf => ?_)
    refine gz_getI (pc := 41) dX9_countOf_41 fl_RX9_158 rfl (gz_shs c_2) ?_
    exact gz_irt (pc := 44) dX9_countOf_44 rfl rfl hf
  have hf := gz_gF hf c_1
  by_cases c_3 : x1 = (1 : Int32)
  · have hf := gz_gT hf c_3
    refine gz_tIn (off := 44) (tgt := 45) (pc := 1) dX9_countOf_1 (by rw [c_3]; decide) (by rw [c_3]; decide) (by rw [c_3]; decide) rfl ?_
    refine gz_aload_n (pc := 45) dX9_countOf_45 rfl rfl ?_
    refine gz_gk hf (fun c_4 hf => ?_)
    refine gz_getI (pc := 46) dX9_countOf_46 fl_RX9_155 rfl (gz_shs c_4) ?_
    exact gz_irt (pc := 49) dX9_countOf_49 rfl rfl hf
  have hf := gz_gF hf c_3
  by_cases c_5 : x1 = (2 : Int32)
  · have hf := gz_gT hf c_5
    refine gz_tIn (off := 49) (tgt := 50) (pc := 1) dX9_countOf_1 (by rw [c_5]; decide) (by rw [c_5]; decide) (by rw [c_5]; decide) rfl ?_
    refine gz_aload_n (pc := 50) dX9_countOf_50 rfl rfl ?_
    refine gz_gk hf (fun c_6 hf => ?_)
    refine gz_getI (pc := 51) dX9_countOf_51 fl_RX9_158 rfl (gz_shs c_6) ?_
    refine gz_aload_n (pc := 54) dX9_countOf_54 rfl rfl ?_
    refine gz_gb hf (fun r_7 er_7 hf => ?_)
    refine gz_getR (pc := 55) dX9_countOf_55 fl_RX9_7 rfl (gz_shs c_6) er_7 ?_
    refine gz_iconst (v := (1 : Int32)) (pc := 58) dX9_countOf_58 rfl ?_
    refine gz_gk hf (fun c_8 hf => ?_)
    refine gz_iald (pc := 59) dX9_countOf_59 c_8 ?_
    refine gz_cSI (av := [.int (h.2.1 r_7 (1 : Int32).toNatClampNeg)]) (st := [.int (h.2.1 a0 3)]) (pc := 60) dX9_countOf_60 kl_RX9_193 rfl rfl (Nat.le_of_ble_eq_true rfl) (by show d + 1 + 0 + 1 ≤ d + 2; omega) (sX9_bits (d := d + 1) (gz_gc hf)) (fun y_10 h_9 hf => ?_)
    refine gz_isub (pc := 63) dX9_countOf_63 ?_
    exact gz_irt (pc := 64) dX9_countOf_64 rfl rfl hf
  have hf := gz_gF hf c_5
  by_cases c_11 : x1 = (3 : Int32)
  · have hf := gz_gT hf c_11
    refine gz_tIn (off := 64) (tgt := 65) (pc := 1) dX9_countOf_1 (by rw [c_11]; decide) (by rw [c_11]; decide) (by rw [c_11]; decide) rfl ?_
    refine gz_aload_n (pc := 65) dX9_countOf_65 rfl rfl ?_
    refine gz_gk hf (fun c_12 hf => ?_)
    refine gz_gb hf (fun r_13 er_13 hf => ?_)
    refine gz_getR (pc := 66) dX9_countOf_66 fl_RX9_7 rfl (gz_shs c_12) er_13 ?_
    refine gz_iconst (v := (0 : Int32)) (pc := 69) dX9_countOf_69 rfl ?_
    refine gz_gk hf (fun c_14 hf => ?_)
    refine gz_iald (pc := 70) dX9_countOf_70 c_14 ?_
    exact gz_irt (pc := 71) dX9_countOf_71 rfl rfl hf
  have hf := gz_gF hf c_11
  by_cases c_15 : x1 = (4 : Int32)
  · have hf := gz_gT hf c_15
    refine gz_tIn (off := 71) (tgt := 72) (pc := 1) dX9_countOf_1 (by rw [c_15]; decide) (by rw [c_15]; decide) (by rw [c_15]; decide) rfl ?_
    refine gz_aload_n (pc := 72) dX9_countOf_72 rfl rfl ?_
    refine gz_iconst (v := (1 : Int32)) (pc := 73) dX9_countOf_73 rfl ?_
    refine gz_gk hf (fun c_18 hf => ?_)
    refine gz_cVI (av := [.int (1 : Int32)]) (st := []) (pc := 74) dX9_countOf_74 kl_RX9_320 rfl (gz_shs c_18) rfl rfl (Nat.le_of_ble_eq_true rfl) (by show d + 0 + 1 + 1 ≤ d + 2; omega) (sX9_kindMany (d := d + 0) (gz_gc hf)) (fun y_17 h_16 hf => ?_)
    exact gz_irt (pc := 77) dX9_countOf_77 rfl rfl hf
  have hf := gz_gF hf c_15
  by_cases c_19 : x1 = (5 : Int32)
  · have hf := gz_gT hf c_19
    refine gz_tIn (off := 77) (tgt := 78) (pc := 1) dX9_countOf_1 (by rw [c_19]; decide) (by rw [c_19]; decide) (by rw [c_19]; decide) rfl ?_
    refine gz_aload_n (pc := 78) dX9_countOf_78 rfl rfl ?_
    refine gz_iconst (v := (3 : Int32)) (pc := 79) dX9_countOf_79 rfl ?_
    refine gz_gk hf (fun c_22 hf => ?_)
    refine gz_cVI (av := [.int (3 : Int32)]) (st := []) (pc := 80) dX9_countOf_80 kl_RX9_320 rfl (gz_shs c_22) rfl rfl (Nat.le_of_ble_eq_true rfl) (by show d + 0 + 1 + 1 ≤ d + 2; omega) (sX9_kindMany (d := d + 0) (gz_gc hf)) (fun y_21 h_20 hf => ?_)
    exact gz_irt (pc := 83) dX9_countOf_83 rfl rfl hf
  have hf := gz_gF hf c_19
  refine gz_tOut (tgt := 84) (pc := 1) dX9_countOf_1 (gz_tout 6 (fun k hk => match k, hk with | 0, _ => c_1 | 1, _ => c_3 | 2, _ => c_5 | 3, _ => c_11 | 4, _ => c_15 | 5, _ => c_19 | k + 6, hk => absurd hk (by omega))) rfl ?_
  refine gz_aload_n (pc := 84) dX9_countOf_84 rfl rfl ?_
  refine gz_iload_n (pc := 85) dX9_countOf_85 rfl rfl ?_
  refine gz_gk hf (fun c_25 hf => ?_)
  refine gz_cVI (av := [.int x1]) (st := []) (pc := 86) dX9_countOf_86 kl_RX9_323 rfl (gz_shs c_25) rfl rfl (Nat.le_of_ble_eq_true rfl) (by show d + 1 + 0 + 1 ≤ d + 2; omega) (sX9_thereOf (d := d + 1) (gz_gc hf)) (fun y_24 h_23 hf => ?_)
  exact gz_irt (pc := 89) dX9_countOf_89 rfl rfl hf
def fX9_countOf (a0 : Nat) (x1 : Int32) (h : gz_H) : Option (Int32 × gz_H) := fX9_countOf_0 a0 x1 h
theorem sX9_countOf {G : gz_G} {d : Nat} {a0 : Nat} {x1 : Int32} {h : gz_H} {Q : Int32 → gz_H → Prop} (hf : gz_g (fX9_countOf a0 x1 h) Q) : gz_Cl G mX9_countOf (d + 2) 0 0 [.ref a0, .int x1] h (gz_qi Q) := gz_cl_of (lo := [.ref a0, .int x1]) (by decide) rfl rfl (Nat.le_of_ble_eq_true rfl) (sX9_countOf_0 a0 x1 h hf)
theorem dX9_count_0 : decode cX9_count 0 = .ok (.iload_n 1, 1) := by decide +kernel
theorem dX9_count_1 : decode cX9_count 1 = .ok (.i2l, 1) := by decide +kernel
theorem dX9_count_2 : decode cX9_count 2 = .ok (.lconst 0, 1) := by decide +kernel
theorem dX9_count_3 : decode cX9_count 3 = .ok (.ldc2_w 314, 3) := by decide +kernel
theorem dX9_count_6 : decode cX9_count 6 = .ok (.invokestatic 74, 3) := by decide +kernel
theorem dX9_count_9 : decode cX9_count 9 = .ok (.ifCond .eq 11, 3) := by decide +kernel
theorem dX9_count_12 : decode cX9_count 12 = .ok (.aload_n 0, 1) := by decide +kernel
theorem dX9_count_13 : decode cX9_count 13 = .ok (.iload_n 1, 1) := by decide +kernel
theorem dX9_count_14 : decode cX9_count 14 = .ok (.invokevirtual 326, 3) := by decide +kernel
theorem dX9_count_17 : decode cX9_count 17 = .ok (.goto 4, 3) := by decide +kernel
theorem dX9_count_20 : decode cX9_count 20 = .ok (.iconst (-1), 1) := by decide +kernel
theorem dX9_count_21 : decode cX9_count 21 = .ok (.ireturn, 1) := by decide +kernel
def fX9_count_0  (a0 : Nat) (x1 : Int32) (h : gz_H) : Option (Int32 × gz_H) :=
    gz_b2 (fX9_in x1.toInt64 (0 : Int64) (8 : Int64) h) fun y_2 h_1 =>
    if y_2 = 0 then (
     some ((-1 : Int32), h_1)
    ) else (
     gz_ck (gz_sh h_1 a0 9 29) <|
     gz_b2 (fX9_countOf a0 x1 h_1) fun y_5 h_4 =>
     some (y_5, h_4)
    )
set_option maxRecDepth 100000 in
set_option maxHeartbeats 1000000 in
theorem sX9_count_0 {G : gz_G} {d l0 s0 : Nat} {Q : Int32 → gz_H → Prop} (a0 : Nat) (x1 : Int32) (h : gz_H) (hf : gz_g (fX9_count_0  a0 x1 h) Q) : gz_Ok G mX9_count (d + 3, l0, s0, 0, 0) 0 [.ref a0, .int x1] [] h (gz_qi Q) := by
  unfold fX9_count_0 at hf
  refine gz_iload_n (pc := 0) dX9_count_0 rfl rfl ?_
  refine gz_i2l (pc := 1) dX9_count_1 ?_
  refine gz_lconst (v := (0 : Int64)) (pc := 2) dX9_count_2 rfl ?_
  refine gz_ldc2 (v := (8 : Int64)) (pc := 3) dX9_count_3 kc_RX9_314 ?_
  refine gz_cSI (av := [.long x1.toInt64, .long (0 : Int64), .long (8 : Int64)]) (st := []) (pc := 6) dX9_count_6 kl_RX9_74 rfl rfl (Nat.le_of_ble_eq_true rfl) (by show d + 2 + 0 + 1 ≤ d + 3; omega) (sX9_in (d := d + 2) (gz_gc hf)) (fun y_2 h_1 hf => ?_)
  refine gz_if_eq (tgt := 20) (pc := 9) dX9_count_9 rfl (fun c_3 => ?_) (fun c_3 => ?_)
  · have hf := gz_gT hf c_3
    refine gz_iconst (v := (-1 : Int32)) (pc := 20) dX9_count_20 rfl ?_
    exact gz_irt (pc := 21) dX9_count_21 rfl rfl hf
  · have hf := gz_gF hf c_3
    refine gz_aload_n (pc := 12) dX9_count_12 rfl rfl ?_
    refine gz_iload_n (pc := 13) dX9_count_13 rfl rfl ?_
    refine gz_gk hf (fun c_6 hf => ?_)
    refine gz_cVI (av := [.int x1]) (st := []) (pc := 14) dX9_count_14 kl_RX9_326 rfl (gz_shs c_6) rfl rfl (Nat.le_of_ble_eq_true rfl) (by show d + 0 + 2 + 1 ≤ d + 3; omega) (sX9_countOf (d := d + 0) (gz_gc hf)) (fun y_5 h_4 hf => ?_)
    refine gz_goto (tgt := 21) (pc := 17) dX9_count_17 rfl ?_
    exact gz_irt (pc := 21) dX9_count_21 rfl rfl hf
def fX9_count (a0 : Nat) (x1 : Int32) (h : gz_H) : Option (Int32 × gz_H) := fX9_count_0 a0 x1 h
theorem sX9_count {G : gz_G} {d : Nat} {a0 : Nat} {x1 : Int32} {h : gz_H} {Q : Int32 → gz_H → Prop} (hf : gz_g (fX9_count a0 x1 h) Q) : gz_Cl G mX9_count (d + 3) 0 0 [.ref a0, .int x1] h (gz_qi Q) := gz_cl_of (lo := [.ref a0, .int x1]) (by decide) rfl rfl (Nat.le_of_ble_eq_true rfl) (sX9_count_0 a0 x1 h hf)
theorem dX9_finding_0 : decode cX9_finding 0 = .ok (.aload_n 0, 1) := by decide +kernel
theorem dX9_finding_1 : decode cX9_finding 1 = .ok (.getfield 65, 3) := by decide +kernel
theorem dX9_finding_4 : decode cX9_finding 4 = .ok (.ireturn, 1) := by decide +kernel
def fX9_finding_0  (a0 : Nat) (h : gz_H) : Option (Int32 × gz_H) :=
    gz_ck (gz_sh h a0 9 29) <|
    some (h.2.1 a0 14, h)
set_option maxRecDepth 100000 in
set_option maxHeartbeats 1000000 in
theorem sX9_finding_0 {G : gz_G} {d l0 s0 : Nat} {Q : Int32 → gz_H → Prop} (a0 : Nat) (h : gz_H) (hf : gz_g (fX9_finding_0  a0 h) Q) : gz_Ok G mX9_finding (d + 0, l0, s0, 0, 0) 0 [.ref a0] [] h (gz_qi Q) := by
  unfold fX9_finding_0 at hf
  refine gz_aload_n (pc := 0) dX9_finding_0 rfl rfl ?_
  refine gz_gk hf (fun c_1 hf => ?_)
  refine gz_getI (pc := 1) dX9_finding_1 fl_RX9_65 rfl (gz_shs c_1) ?_
  exact gz_irt (pc := 4) dX9_finding_4 rfl rfl hf
def fX9_finding (a0 : Nat) (h : gz_H) : Option (Int32 × gz_H) := fX9_finding_0 a0 h
theorem sX9_finding {G : gz_G} {d : Nat} {a0 : Nat} {h : gz_H} {Q : Int32 → gz_H → Prop} (hf : gz_g (fX9_finding a0 h) Q) : gz_Cl G mX9_finding (d + 0) 0 0 [.ref a0] h (gz_qi Q) := gz_cl_of (lo := [.ref a0]) (by decide) rfl rfl (Nat.le_of_ble_eq_true rfl) (sX9_finding_0 a0 h hf)
theorem dX9_findings_0 : decode cX9_findings 0 = .ok (.iload_n 1, 1) := by decide +kernel
theorem dX9_findings_1 : decode cX9_findings 1 = .ok (.i2l, 1) := by decide +kernel
theorem dX9_findings_2 : decode cX9_findings 2 = .ok (.lconst 1, 1) := by decide +kernel
theorem dX9_findings_3 : decode cX9_findings 3 = .ok (.ldc2_w 72, 3) := by decide +kernel
theorem dX9_findings_6 : decode cX9_findings 6 = .ok (.invokestatic 74, 3) := by decide +kernel
theorem dX9_findings_9 : decode cX9_findings 9 = .ok (.ifCond .eq 12, 3) := by decide +kernel
theorem dX9_findings_12 : decode cX9_findings 12 = .ok (.aload_n 0, 1) := by decide +kernel
theorem dX9_findings_13 : decode cX9_findings 13 = .ok (.getfield 41, 3) := by decide +kernel
theorem dX9_findings_16 : decode cX9_findings 16 = .ok (.iload_n 1, 1) := by decide +kernel
theorem dX9_findings_17 : decode cX9_findings 17 = .ok (.iaload, 1) := by decide +kernel
theorem dX9_findings_18 : decode cX9_findings 18 = .ok (.goto 4, 3) := by decide +kernel
theorem dX9_findings_21 : decode cX9_findings 21 = .ok (.iconst (-1), 1) := by decide +kernel
theorem dX9_findings_22 : decode cX9_findings 22 = .ok (.ireturn, 1) := by decide +kernel
def fX9_findings_0  (a0 : Nat) (x1 : Int32) (h : gz_H) : Option (Int32 × gz_H) :=
    gz_b2 (fX9_in x1.toInt64 (1 : Int64) (5 : Int64) h) fun y_2 h_1 =>
    if y_2 = 0 then (
     some ((-1 : Int32), h_1)
    ) else (
     gz_ck (gz_sh h_1 a0 9 29) <|
     gz_br (h_1.2.2.2 a0 15) fun r_5 =>
     gz_ck (gz_inb h_1 r_5 10 x1) <|
     some (h_1.2.1 r_5 x1.toNatClampNeg, h_1)
    )
set_option maxRecDepth 100000 in
set_option maxHeartbeats 1000000 in
theorem sX9_findings_0 {G : gz_G} {d l0 s0 : Nat} {Q : Int32 → gz_H → Prop} (a0 : Nat) (x1 : Int32) (h : gz_H) (hf : gz_g (fX9_findings_0  a0 x1 h) Q) : gz_Ok G mX9_findings (d + 1, l0, s0, 0, 0) 0 [.ref a0, .int x1] [] h (gz_qi Q) := by
  unfold fX9_findings_0 at hf
  refine gz_iload_n (pc := 0) dX9_findings_0 rfl rfl ?_
  refine gz_i2l (pc := 1) dX9_findings_1 ?_
  refine gz_lconst (v := (1 : Int64)) (pc := 2) dX9_findings_2 rfl ?_
  refine gz_ldc2 (v := (5 : Int64)) (pc := 3) dX9_findings_3 kc_RX9_72 ?_
  refine gz_cSI (av := [.long x1.toInt64, .long (1 : Int64), .long (5 : Int64)]) (st := []) (pc := 6) dX9_findings_6 kl_RX9_74 rfl rfl (Nat.le_of_ble_eq_true rfl) (by show d + 0 + 0 + 1 ≤ d + 1; omega) (sX9_in (d := d + 0) (gz_gc hf)) (fun y_2 h_1 hf => ?_)
  refine gz_if_eq (tgt := 21) (pc := 9) dX9_findings_9 rfl (fun c_3 => ?_) (fun c_3 => ?_)
  · have hf := gz_gT hf c_3
    refine gz_iconst (v := (-1 : Int32)) (pc := 21) dX9_findings_21 rfl ?_
    exact gz_irt (pc := 22) dX9_findings_22 rfl rfl hf
  · have hf := gz_gF hf c_3
    refine gz_aload_n (pc := 12) dX9_findings_12 rfl rfl ?_
    refine gz_gk hf (fun c_4 hf => ?_)
    refine gz_gb hf (fun r_5 er_5 hf => ?_)
    refine gz_getR (pc := 13) dX9_findings_13 fl_RX9_41 rfl (gz_shs c_4) er_5 ?_
    refine gz_iload_n (pc := 16) dX9_findings_16 rfl rfl ?_
    refine gz_gk hf (fun c_6 hf => ?_)
    refine gz_iald (pc := 17) dX9_findings_17 c_6 ?_
    refine gz_goto (tgt := 22) (pc := 18) dX9_findings_18 rfl ?_
    exact gz_irt (pc := 22) dX9_findings_22 rfl rfl hf
def fX9_findings (a0 : Nat) (x1 : Int32) (h : gz_H) : Option (Int32 × gz_H) := fX9_findings_0 a0 x1 h
theorem sX9_findings {G : gz_G} {d : Nat} {a0 : Nat} {x1 : Int32} {h : gz_H} {Q : Int32 → gz_H → Prop} (hf : gz_g (fX9_findings a0 x1 h) Q) : gz_Cl G mX9_findings (d + 1) 0 0 [.ref a0, .int x1] h (gz_qi Q) := gz_cl_of (lo := [.ref a0, .int x1]) (by decide) rfl rfl (Nat.le_of_ble_eq_true rfl) (sX9_findings_0 a0 x1 h hf)
theorem dX9_digest_0 : decode cX9_digest 0 = .ok (.ldc2_w 329, 3) := by decide +kernel
theorem dX9_digest_3 : decode cX9_digest 3 = .ok (.lstore_n 1, 1) := by decide +kernel
theorem dX9_digest_4 : decode cX9_digest 4 = .ok (.iconst 0, 1) := by decide +kernel
theorem dX9_digest_5 : decode cX9_digest 5 = .ok (.istore_n 3, 1) := by decide +kernel
theorem dX9_digest_6 : decode cX9_digest 6 = .ok (.iload_n 3, 1) := by decide +kernel
theorem dX9_digest_7 : decode cX9_digest 7 = .ok (.bipush 9, 2) := by decide +kernel
theorem dX9_digest_9 : decode cX9_digest 9 = .ok (.if_icmp .ge 22, 3) := by decide +kernel
theorem dX9_digest_12 : decode cX9_digest 12 = .ok (.ldc2_w 331, 3) := by decide +kernel
theorem dX9_digest_15 : decode cX9_digest 15 = .ok (.lload_n 1, 1) := by decide +kernel
theorem dX9_digest_16 : decode cX9_digest 16 = .ok (.lmul, 1) := by decide +kernel
theorem dX9_digest_17 : decode cX9_digest 17 = .ok (.aload_n 0, 1) := by decide +kernel
theorem dX9_digest_18 : decode cX9_digest 18 = .ok (.iload_n 3, 1) := by decide +kernel
theorem dX9_digest_19 : decode cX9_digest 19 = .ok (.invokevirtual 326, 3) := by decide +kernel
theorem dX9_digest_22 : decode cX9_digest 22 = .ok (.i2l, 1) := by decide +kernel
theorem dX9_digest_23 : decode cX9_digest 23 = .ok (.ladd, 1) := by decide +kernel
theorem dX9_digest_24 : decode cX9_digest 24 = .ok (.lstore_n 1, 1) := by decide +kernel
theorem dX9_digest_25 : decode cX9_digest 25 = .ok (.iinc 3 1, 3) := by decide +kernel
theorem dX9_digest_28 : decode cX9_digest 28 = .ok (.goto (-22), 3) := by decide +kernel
theorem dX9_digest_31 : decode cX9_digest 31 = .ok (.iconst 0, 1) := by decide +kernel
theorem dX9_digest_32 : decode cX9_digest 32 = .ok (.istore_n 3, 1) := by decide +kernel
theorem dX9_digest_33 : decode cX9_digest 33 = .ok (.iload_n 3, 1) := by decide +kernel
theorem dX9_digest_34 : decode cX9_digest 34 = .ok (.aload_n 0, 1) := by decide +kernel
theorem dX9_digest_35 : decode cX9_digest 35 = .ok (.getfield 155, 3) := by decide +kernel
theorem dX9_digest_38 : decode cX9_digest 38 = .ok (.if_icmp .ge 23, 3) := by decide +kernel
theorem dX9_digest_41 : decode cX9_digest 41 = .ok (.ldc2_w 331, 3) := by decide +kernel
theorem dX9_digest_44 : decode cX9_digest 44 = .ok (.lload_n 1, 1) := by decide +kernel
theorem dX9_digest_45 : decode cX9_digest 45 = .ok (.lmul, 1) := by decide +kernel
theorem dX9_digest_46 : decode cX9_digest 46 = .ok (.aload_n 0, 1) := by decide +kernel
theorem dX9_digest_47 : decode cX9_digest 47 = .ok (.getfield 13, 3) := by decide +kernel
theorem dX9_digest_50 : decode cX9_digest 50 = .ok (.iload_n 3, 1) := by decide +kernel
theorem dX9_digest_51 : decode cX9_digest 51 = .ok (.iaload, 1) := by decide +kernel
theorem dX9_digest_52 : decode cX9_digest 52 = .ok (.i2l, 1) := by decide +kernel
theorem dX9_digest_53 : decode cX9_digest 53 = .ok (.ladd, 1) := by decide +kernel
theorem dX9_digest_54 : decode cX9_digest 54 = .ok (.lstore_n 1, 1) := by decide +kernel
theorem dX9_digest_55 : decode cX9_digest 55 = .ok (.iinc 3 1, 3) := by decide +kernel
theorem dX9_digest_58 : decode cX9_digest 58 = .ok (.goto (-25), 3) := by decide +kernel
theorem dX9_digest_61 : decode cX9_digest 61 = .ok (.iconst 0, 1) := by decide +kernel
theorem dX9_digest_62 : decode cX9_digest 62 = .ok (.istore_n 3, 1) := by decide +kernel
theorem dX9_digest_63 : decode cX9_digest 63 = .ok (.iload_n 3, 1) := by decide +kernel
theorem dX9_digest_64 : decode cX9_digest 64 = .ok (.aload_n 0, 1) := by decide +kernel
theorem dX9_digest_65 : decode cX9_digest 65 = .ok (.getfield 158, 3) := by decide +kernel
theorem dX9_digest_68 : decode cX9_digest 68 = .ok (.if_icmp .ge 77, 3) := by decide +kernel
theorem dX9_digest_71 : decode cX9_digest 71 = .ok (.iconst 0, 1) := by decide +kernel
theorem dX9_digest_72 : decode cX9_digest 72 = .ok (.istore 4, 2) := by decide +kernel
theorem dX9_digest_74 : decode cX9_digest 74 = .ok (.iload 4, 2) := by decide +kernel
theorem dX9_digest_76 : decode cX9_digest 76 = .ok (.bipush 7, 2) := by decide +kernel
theorem dX9_digest_78 : decode cX9_digest 78 = .ok (.if_icmp .ge 24, 3) := by decide +kernel
theorem dX9_digest_81 : decode cX9_digest 81 = .ok (.ldc2_w 331, 3) := by decide +kernel
theorem dX9_digest_84 : decode cX9_digest 84 = .ok (.lload_n 1, 1) := by decide +kernel
theorem dX9_digest_85 : decode cX9_digest 85 = .ok (.lmul, 1) := by decide +kernel
theorem dX9_digest_86 : decode cX9_digest 86 = .ok (.aload_n 0, 1) := by decide +kernel
theorem dX9_digest_87 : decode cX9_digest 87 = .ok (.iload_n 3, 1) := by decide +kernel
theorem dX9_digest_88 : decode cX9_digest 88 = .ok (.iload 4, 2) := by decide +kernel
theorem dX9_digest_90 : decode cX9_digest 90 = .ok (.invokevirtual 201, 3) := by decide +kernel
theorem dX9_digest_93 : decode cX9_digest 93 = .ok (.i2l, 1) := by decide +kernel
theorem dX9_digest_94 : decode cX9_digest 94 = .ok (.ladd, 1) := by decide +kernel
theorem dX9_digest_95 : decode cX9_digest 95 = .ok (.lstore_n 1, 1) := by decide +kernel
theorem dX9_digest_96 : decode cX9_digest 96 = .ok (.iinc 4 1, 3) := by decide +kernel
theorem dX9_digest_99 : decode cX9_digest 99 = .ok (.goto (-25), 3) := by decide +kernel
theorem dX9_digest_102 : decode cX9_digest 102 = .ok (.iconst 0, 1) := by decide +kernel
theorem dX9_digest_103 : decode cX9_digest 103 = .ok (.istore 4, 2) := by decide +kernel
theorem dX9_digest_105 : decode cX9_digest 105 = .ok (.iload 4, 2) := by decide +kernel
theorem dX9_digest_107 : decode cX9_digest 107 = .ok (.aload_n 0, 1) := by decide +kernel
theorem dX9_digest_108 : decode cX9_digest 108 = .ok (.getfield 7, 3) := by decide +kernel
theorem dX9_digest_111 : decode cX9_digest 111 = .ok (.iconst 2, 1) := by decide +kernel
theorem dX9_digest_112 : decode cX9_digest 112 = .ok (.iload_n 3, 1) := by decide +kernel
theorem dX9_digest_113 : decode cX9_digest 113 = .ok (.iadd, 1) := by decide +kernel
theorem dX9_digest_114 : decode cX9_digest 114 = .ok (.iaload, 1) := by decide +kernel
theorem dX9_digest_115 : decode cX9_digest 115 = .ok (.if_icmp .ge 24, 3) := by decide +kernel
theorem dX9_digest_118 : decode cX9_digest 118 = .ok (.ldc2_w 331, 3) := by decide +kernel
theorem dX9_digest_121 : decode cX9_digest 121 = .ok (.lload_n 1, 1) := by decide +kernel
theorem dX9_digest_122 : decode cX9_digest 122 = .ok (.lmul, 1) := by decide +kernel
theorem dX9_digest_123 : decode cX9_digest 123 = .ok (.aload_n 0, 1) := by decide +kernel
theorem dX9_digest_124 : decode cX9_digest 124 = .ok (.iload_n 3, 1) := by decide +kernel
theorem dX9_digest_125 : decode cX9_digest 125 = .ok (.iload 4, 2) := by decide +kernel
theorem dX9_digest_127 : decode cX9_digest 127 = .ok (.invokevirtual 161, 3) := by decide +kernel
theorem dX9_digest_130 : decode cX9_digest 130 = .ok (.i2l, 1) := by decide +kernel
theorem dX9_digest_131 : decode cX9_digest 131 = .ok (.ladd, 1) := by decide +kernel
theorem dX9_digest_132 : decode cX9_digest 132 = .ok (.lstore_n 1, 1) := by decide +kernel
theorem dX9_digest_133 : decode cX9_digest 133 = .ok (.iinc 4 1, 3) := by decide +kernel
theorem dX9_digest_136 : decode cX9_digest 136 = .ok (.goto (-31), 3) := by decide +kernel
theorem dX9_digest_139 : decode cX9_digest 139 = .ok (.iinc 3 1, 3) := by decide +kernel
theorem dX9_digest_142 : decode cX9_digest 142 = .ok (.goto (-79), 3) := by decide +kernel
theorem dX9_digest_145 : decode cX9_digest 145 = .ok (.iconst 1, 1) := by decide +kernel
theorem dX9_digest_146 : decode cX9_digest 146 = .ok (.istore_n 3, 1) := by decide +kernel
theorem dX9_digest_147 : decode cX9_digest 147 = .ok (.iload_n 3, 1) := by decide +kernel
theorem dX9_digest_148 : decode cX9_digest 148 = .ok (.iconst 4, 1) := by decide +kernel
theorem dX9_digest_149 : decode cX9_digest 149 = .ok (.if_icmp .ge 29, 3) := by decide +kernel
theorem dX9_digest_152 : decode cX9_digest 152 = .ok (.ldc2_w 331, 3) := by decide +kernel
theorem dX9_digest_155 : decode cX9_digest 155 = .ok (.lload_n 1, 1) := by decide +kernel
theorem dX9_digest_156 : decode cX9_digest 156 = .ok (.lmul, 1) := by decide +kernel
theorem dX9_digest_157 : decode cX9_digest 157 = .ok (.aload_n 0, 1) := by decide +kernel
theorem dX9_digest_158 : decode cX9_digest 158 = .ok (.getfield 7, 3) := by decide +kernel
theorem dX9_digest_161 : decode cX9_digest 161 = .ok (.sipush 2256, 3) := by decide +kernel
theorem dX9_digest_164 : decode cX9_digest 164 = .ok (.iload_n 3, 1) := by decide +kernel
theorem dX9_digest_165 : decode cX9_digest 165 = .ok (.imul, 1) := by decide +kernel
theorem dX9_digest_166 : decode cX9_digest 166 = .ok (.iconst 0, 1) := by decide +kernel
theorem dX9_digest_167 : decode cX9_digest 167 = .ok (.iadd, 1) := by decide +kernel
theorem dX9_digest_168 : decode cX9_digest 168 = .ok (.iaload, 1) := by decide +kernel
theorem dX9_digest_169 : decode cX9_digest 169 = .ok (.i2l, 1) := by decide +kernel
theorem dX9_digest_170 : decode cX9_digest 170 = .ok (.ladd, 1) := by decide +kernel
theorem dX9_digest_171 : decode cX9_digest 171 = .ok (.lstore_n 1, 1) := by decide +kernel
theorem dX9_digest_172 : decode cX9_digest 172 = .ok (.iinc 3 1, 3) := by decide +kernel
theorem dX9_digest_175 : decode cX9_digest 175 = .ok (.goto (-28), 3) := by decide +kernel
theorem dX9_digest_178 : decode cX9_digest 178 = .ok (.iconst 0, 1) := by decide +kernel
theorem dX9_digest_179 : decode cX9_digest 179 = .ok (.istore_n 3, 1) := by decide +kernel
theorem dX9_digest_180 : decode cX9_digest 180 = .ok (.iload_n 3, 1) := by decide +kernel
theorem dX9_digest_181 : decode cX9_digest 181 = .ok (.bipush 6, 2) := by decide +kernel
theorem dX9_digest_183 : decode cX9_digest 183 = .ok (.if_icmp .ge 63, 3) := by decide +kernel
theorem dX9_digest_186 : decode cX9_digest 186 = .ok (.ldc2_w 331, 3) := by decide +kernel
theorem dX9_digest_189 : decode cX9_digest 189 = .ok (.lload_n 1, 1) := by decide +kernel
theorem dX9_digest_190 : decode cX9_digest 190 = .ok (.lmul, 1) := by decide +kernel
theorem dX9_digest_191 : decode cX9_digest 191 = .ok (.aload_n 0, 1) := by decide +kernel
theorem dX9_digest_192 : decode cX9_digest 192 = .ok (.getfield 25, 3) := by decide +kernel
theorem dX9_digest_195 : decode cX9_digest 195 = .ok (.iload_n 3, 1) := by decide +kernel
theorem dX9_digest_196 : decode cX9_digest 196 = .ok (.iaload, 1) := by decide +kernel
theorem dX9_digest_197 : decode cX9_digest 197 = .ok (.i2l, 1) := by decide +kernel
theorem dX9_digest_198 : decode cX9_digest 198 = .ok (.ladd, 1) := by decide +kernel
theorem dX9_digest_199 : decode cX9_digest 199 = .ok (.lstore_n 1, 1) := by decide +kernel
theorem dX9_digest_200 : decode cX9_digest 200 = .ok (.iconst 0, 1) := by decide +kernel
theorem dX9_digest_201 : decode cX9_digest 201 = .ok (.istore 4, 2) := by decide +kernel
theorem dX9_digest_203 : decode cX9_digest 203 = .ok (.iload 4, 2) := by decide +kernel
theorem dX9_digest_205 : decode cX9_digest 205 = .ok (.aload_n 0, 1) := by decide +kernel
theorem dX9_digest_206 : decode cX9_digest 206 = .ok (.getfield 25, 3) := by decide +kernel
theorem dX9_digest_209 : decode cX9_digest 209 = .ok (.iload_n 3, 1) := by decide +kernel
theorem dX9_digest_210 : decode cX9_digest 210 = .ok (.iaload, 1) := by decide +kernel
theorem dX9_digest_211 : decode cX9_digest 211 = .ok (.if_icmp .ge 29, 3) := by decide +kernel
theorem dX9_digest_214 : decode cX9_digest 214 = .ok (.ldc2_w 331, 3) := by decide +kernel
theorem dX9_digest_217 : decode cX9_digest 217 = .ok (.lload_n 1, 1) := by decide +kernel
theorem dX9_digest_218 : decode cX9_digest 218 = .ok (.lmul, 1) := by decide +kernel
theorem dX9_digest_219 : decode cX9_digest 219 = .ok (.aload_n 0, 1) := by decide +kernel
theorem dX9_digest_220 : decode cX9_digest 220 = .ok (.getfield 28, 3) := by decide +kernel
theorem dX9_digest_223 : decode cX9_digest 223 = .ok (.bipush 40, 2) := by decide +kernel
theorem dX9_digest_225 : decode cX9_digest 225 = .ok (.iload_n 3, 1) := by decide +kernel
theorem dX9_digest_226 : decode cX9_digest 226 = .ok (.imul, 1) := by decide +kernel
theorem dX9_digest_227 : decode cX9_digest 227 = .ok (.iload 4, 2) := by decide +kernel
theorem dX9_digest_229 : decode cX9_digest 229 = .ok (.iadd, 1) := by decide +kernel
theorem dX9_digest_230 : decode cX9_digest 230 = .ok (.iaload, 1) := by decide +kernel
theorem dX9_digest_231 : decode cX9_digest 231 = .ok (.i2l, 1) := by decide +kernel
theorem dX9_digest_232 : decode cX9_digest 232 = .ok (.ladd, 1) := by decide +kernel
theorem dX9_digest_233 : decode cX9_digest 233 = .ok (.lstore_n 1, 1) := by decide +kernel
theorem dX9_digest_234 : decode cX9_digest 234 = .ok (.iinc 4 1, 3) := by decide +kernel
theorem dX9_digest_237 : decode cX9_digest 237 = .ok (.goto (-34), 3) := by decide +kernel
theorem dX9_digest_240 : decode cX9_digest 240 = .ok (.iinc 3 1, 3) := by decide +kernel
theorem dX9_digest_243 : decode cX9_digest 243 = .ok (.goto (-63), 3) := by decide +kernel
theorem dX9_digest_246 : decode cX9_digest 246 = .ok (.iconst 0, 1) := by decide +kernel
theorem dX9_digest_247 : decode cX9_digest 247 = .ok (.istore_n 3, 1) := by decide +kernel
theorem dX9_digest_248 : decode cX9_digest 248 = .ok (.iload_n 3, 1) := by decide +kernel
theorem dX9_digest_249 : decode cX9_digest 249 = .ok (.iconst 4, 1) := by decide +kernel
theorem dX9_digest_250 : decode cX9_digest 250 = .ok (.if_icmp .ge 63, 3) := by decide +kernel
theorem dX9_digest_253 : decode cX9_digest 253 = .ok (.ldc2_w 331, 3) := by decide +kernel
theorem dX9_digest_256 : decode cX9_digest 256 = .ok (.lload_n 1, 1) := by decide +kernel
theorem dX9_digest_257 : decode cX9_digest 257 = .ok (.lmul, 1) := by decide +kernel
theorem dX9_digest_258 : decode cX9_digest 258 = .ok (.aload_n 0, 1) := by decide +kernel
theorem dX9_digest_259 : decode cX9_digest 259 = .ok (.getfield 31, 3) := by decide +kernel
theorem dX9_digest_262 : decode cX9_digest 262 = .ok (.iload_n 3, 1) := by decide +kernel
theorem dX9_digest_263 : decode cX9_digest 263 = .ok (.iaload, 1) := by decide +kernel
theorem dX9_digest_264 : decode cX9_digest 264 = .ok (.i2l, 1) := by decide +kernel
theorem dX9_digest_265 : decode cX9_digest 265 = .ok (.ladd, 1) := by decide +kernel
theorem dX9_digest_266 : decode cX9_digest 266 = .ok (.lstore_n 1, 1) := by decide +kernel
theorem dX9_digest_267 : decode cX9_digest 267 = .ok (.iconst 0, 1) := by decide +kernel
theorem dX9_digest_268 : decode cX9_digest 268 = .ok (.istore 4, 2) := by decide +kernel
theorem dX9_digest_270 : decode cX9_digest 270 = .ok (.iload 4, 2) := by decide +kernel
theorem dX9_digest_272 : decode cX9_digest 272 = .ok (.aload_n 0, 1) := by decide +kernel
theorem dX9_digest_273 : decode cX9_digest 273 = .ok (.getfield 31, 3) := by decide +kernel
theorem dX9_digest_276 : decode cX9_digest 276 = .ok (.iload_n 3, 1) := by decide +kernel
theorem dX9_digest_277 : decode cX9_digest 277 = .ok (.iaload, 1) := by decide +kernel
theorem dX9_digest_278 : decode cX9_digest 278 = .ok (.if_icmp .ge 29, 3) := by decide +kernel
theorem dX9_digest_281 : decode cX9_digest 281 = .ok (.ldc2_w 331, 3) := by decide +kernel
theorem dX9_digest_284 : decode cX9_digest 284 = .ok (.lload_n 1, 1) := by decide +kernel
theorem dX9_digest_285 : decode cX9_digest 285 = .ok (.lmul, 1) := by decide +kernel
theorem dX9_digest_286 : decode cX9_digest 286 = .ok (.aload_n 0, 1) := by decide +kernel
theorem dX9_digest_287 : decode cX9_digest 287 = .ok (.getfield 34, 3) := by decide +kernel
theorem dX9_digest_290 : decode cX9_digest 290 = .ok (.bipush 80, 2) := by decide +kernel
theorem dX9_digest_292 : decode cX9_digest 292 = .ok (.iload_n 3, 1) := by decide +kernel
theorem dX9_digest_293 : decode cX9_digest 293 = .ok (.imul, 1) := by decide +kernel
theorem dX9_digest_294 : decode cX9_digest 294 = .ok (.iload 4, 2) := by decide +kernel
theorem dX9_digest_296 : decode cX9_digest 296 = .ok (.iadd, 1) := by decide +kernel
theorem dX9_digest_297 : decode cX9_digest 297 = .ok (.iaload, 1) := by decide +kernel
theorem dX9_digest_298 : decode cX9_digest 298 = .ok (.i2l, 1) := by decide +kernel
theorem dX9_digest_299 : decode cX9_digest 299 = .ok (.ladd, 1) := by decide +kernel
theorem dX9_digest_300 : decode cX9_digest 300 = .ok (.lstore_n 1, 1) := by decide +kernel
theorem dX9_digest_301 : decode cX9_digest 301 = .ok (.iinc 4 1, 3) := by decide +kernel
theorem dX9_digest_304 : decode cX9_digest 304 = .ok (.goto (-34), 3) := by decide +kernel
theorem dX9_digest_307 : decode cX9_digest 307 = .ok (.iinc 3 1, 3) := by decide +kernel
theorem dX9_digest_310 : decode cX9_digest 310 = .ok (.goto (-62), 3) := by decide +kernel
theorem dX9_digest_313 : decode cX9_digest 313 = .ok (.lload_n 1, 1) := by decide +kernel
theorem dX9_digest_314 : decode cX9_digest 314 = .ok (.lreturn, 1) := by decide +kernel
def fX9_digest_105 (k63 : Nat → Int64 → Int32 → gz_H → Option (Int64 × gz_H)) : Nat → Nat → Int64 → Int32 → Int32 → gz_H → Option (Int64 × gz_H)
  | 0, _, _, _, _, _ => none
  | n + 1, a0, x1, x3, x4, h =>
    gz_ck (gz_sh h a0 9 29) <|
    gz_br (h.2.2.2 a0 0) fun r_2 =>
    gz_ck (gz_inb h r_2 10 ((2 : Int32) + x3)) <|
    if (h.2.1 r_2 ((2 : Int32) + x3).toNatClampNeg) ≤ x4 then (
     k63 a0 x1 (x3 + 1) h
    ) else (
     gz_b2 (fX9_factOf a0 x3 x4 h) fun y_6 h_5 =>
     fX9_digest_105 k63 n a0 (((31 : Int64) * x1) + y_6.toInt64) x3 (x4 + 1) h_5
    )
set_option maxRecDepth 100000 in
set_option maxHeartbeats 1000000 in
theorem sX9_digest_105 {G : gz_G} {d l0 s0 : Nat} {Q : Int64 → gz_H → Prop} {k63 : Nat → Int64 → Int32 → gz_H → Option (Int64 × gz_H)} (hk63 : ∀ (a0 : Nat) (x1 : Int64) (x3 : Int32) (h : gz_H), gz_g (k63 a0 x1 x3 h) Q → gz_Ok G mX9_digest (d + 3, l0, s0, 0, 0) 63 [.ref a0, .long x1, .retAddr 0, .int x3, .retAddr 0] [] h (gz_ql Q)) : ∀ (n : Nat) (a0 : Nat) (x1 : Int64) (x3 : Int32) (x4 : Int32) (h : gz_H), gz_g (fX9_digest_105 k63 n a0 x1 x3 x4 h) Q → gz_Ok G mX9_digest (d + 3, l0, s0, 0, 0) 105 [.ref a0, .long x1, .retAddr 0, .int x3, .int x4] [] h (gz_ql Q) := by
  intro n
  induction n with
  | zero => intro a0 x1 x3 x4 h hf; exact False.elim hf
  | succ n ih =>
    intro a0 x1 x3 x4 h hf
    rw [fX9_digest_105] at hf
    refine gz_iload (pc := 105) dX9_digest_105 rfl ?_
    refine gz_aload_n (pc := 107) dX9_digest_107 rfl rfl ?_
    refine gz_gk hf (fun c_1 hf => ?_)
    refine gz_gb hf (fun r_2 er_2 hf => ?_)
    refine gz_getR (pc := 108) dX9_digest_108 fl_RX9_7 rfl (gz_shs c_1) er_2 ?_
    refine gz_iconst (v := (2 : Int32)) (pc := 111) dX9_digest_111 rfl ?_
    refine gz_iload_n (pc := 112) dX9_digest_112 rfl rfl ?_
    refine gz_iadd (pc := 113) dX9_digest_113 ?_
    refine gz_gk hf (fun c_3 hf => ?_)
    refine gz_iald (pc := 114) dX9_digest_114 c_3 ?_
    refine gz_icmp_ge (tgt := 139) (pc := 115) dX9_digest_115 rfl (fun c_4 => ?_) (fun c_4 => ?_)
    · have hf := gz_gT hf c_4
      refine gz_iinc (v := x3 + 1) (lv := [.ref a0, .long x1, .retAddr 0, .int (x3 + 1), .int x4]) (pc := 139) dX9_digest_139 rfl rfl (by decide) rfl ?_
      refine gz_goto (tgt := 63) (pc := 142) dX9_digest_142 rfl ?_
      refine gz_fg (lv := [.ref a0, .long x1, .retAddr 0, .int (x3 + 1), .retAddr 0]) ⟨Or.inr rfl, ⟨Or.inr rfl, ⟨Or.inl rfl, ⟨Or.inr rfl, ⟨Or.inl rfl, trivial⟩⟩⟩⟩⟩ ?_
      exact hk63 a0 x1 (x3 + 1) h hf
    · have hf := gz_gF hf c_4
      refine gz_ldc2 (v := (31 : Int64)) (pc := 118) dX9_digest_118 kc_RX9_331 ?_
      refine gz_lload_n (pc := 121) dX9_digest_121 rfl rfl ?_
      refine gz_lmul (pc := 122) dX9_digest_122 ?_
      refine gz_aload_n (pc := 123) dX9_digest_123 rfl rfl ?_
      refine gz_iload_n (pc := 124) dX9_digest_124 rfl rfl ?_
      refine gz_iload (pc := 125) dX9_digest_125 rfl ?_
      refine gz_cVI (av := [.int x3, .int x4]) (st := [.long ((31 : Int64) * x1)]) (pc := 127) dX9_digest_127 kl_RX9_161 rfl (gz_shs c_1) rfl rfl (Nat.le_of_ble_eq_true rfl) (by show d + 2 + 0 + 1 ≤ d + 3; omega) (sX9_factOf (d := d + 2) (gz_gc hf)) (fun y_6 h_5 hf => ?_)
      refine gz_i2l (pc := 130) dX9_digest_130 ?_
      refine gz_ladd (pc := 131) dX9_digest_131 ?_
      refine gz_lstore_n (lv := [.ref a0, .long (((31 : Int64) * x1) + y_6.toInt64), .retAddr 0, .int x3, .int x4]) (pc := 132) dX9_digest_132 rfl (by decide) rfl ?_
      refine gz_iinc (v := x4 + 1) (lv := [.ref a0, .long (((31 : Int64) * x1) + y_6.toInt64), .retAddr 0, .int x3, .int (x4 + 1)]) (pc := 133) dX9_digest_133 rfl rfl (by decide) rfl ?_
      refine gz_goto (tgt := 105) (pc := 136) dX9_digest_136 rfl ?_
      exact ih a0 (((31 : Int64) * x1) + y_6.toInt64) x3 (x4 + 1) h_5 hf
def fX9_digest_74 (k63 : Nat → Int64 → Int32 → gz_H → Option (Int64 × gz_H)) : Nat → Nat → Int64 → Int32 → Int32 → gz_H → Option (Int64 × gz_H)
  | 0, _, _, _, _, _ => none
  | n + 1, a0, x1, x3, x4, h =>
    if (7 : Int32) ≤ x4 then (
     fX9_digest_105 k63 gz_fu a0 x1 x3 (0 : Int32) h
    ) else (
     gz_ck (gz_sh h a0 9 29) <|
     gz_b2 (fX9_toldOf a0 x3 x4 h) fun y_3 h_2 =>
     fX9_digest_74 k63 n a0 (((31 : Int64) * x1) + y_3.toInt64) x3 (x4 + 1) h_2
    )
set_option maxRecDepth 100000 in
set_option maxHeartbeats 1000000 in
theorem sX9_digest_74 {G : gz_G} {d l0 s0 : Nat} {Q : Int64 → gz_H → Prop} {k63 : Nat → Int64 → Int32 → gz_H → Option (Int64 × gz_H)} (hk63 : ∀ (a0 : Nat) (x1 : Int64) (x3 : Int32) (h : gz_H), gz_g (k63 a0 x1 x3 h) Q → gz_Ok G mX9_digest (d + 3, l0, s0, 0, 0) 63 [.ref a0, .long x1, .retAddr 0, .int x3, .retAddr 0] [] h (gz_ql Q)) : ∀ (n : Nat) (a0 : Nat) (x1 : Int64) (x3 : Int32) (x4 : Int32) (h : gz_H), gz_g (fX9_digest_74 k63 n a0 x1 x3 x4 h) Q → gz_Ok G mX9_digest (d + 3, l0, s0, 0, 0) 74 [.ref a0, .long x1, .retAddr 0, .int x3, .int x4] [] h (gz_ql Q) := by
  intro n
  induction n with
  | zero => intro a0 x1 x3 x4 h hf; exact False.elim hf
  | succ n ih =>
    intro a0 x1 x3 x4 h hf
    rw [fX9_digest_74] at hf
    refine gz_iload (pc := 74) dX9_digest_74 rfl ?_
    refine gz_bipush (v := (7 : Int32)) (pc := 76) dX9_digest_76 rfl ?_
    refine gz_icmp_ge (tgt := 102) (pc := 78) dX9_digest_78 rfl (fun c_1 => ?_) (fun c_1 => ?_)
    · have hf := gz_gT hf c_1
      refine gz_iconst (v := (0 : Int32)) (pc := 102) dX9_digest_102 rfl ?_
      refine gz_istore (lv := [.ref a0, .long x1, .retAddr 0, .int x3, .int (0 : Int32)]) (pc := 103) dX9_digest_103 (by decide) rfl ?_
      exact sX9_digest_105 hk63 gz_fu a0 x1 x3 (0 : Int32) h hf
    · have hf := gz_gF hf c_1
      refine gz_ldc2 (v := (31 : Int64)) (pc := 81) dX9_digest_81 kc_RX9_331 ?_
      refine gz_lload_n (pc := 84) dX9_digest_84 rfl rfl ?_
      refine gz_lmul (pc := 85) dX9_digest_85 ?_
      refine gz_aload_n (pc := 86) dX9_digest_86 rfl rfl ?_
      refine gz_iload_n (pc := 87) dX9_digest_87 rfl rfl ?_
      refine gz_iload (pc := 88) dX9_digest_88 rfl ?_
      refine gz_gk hf (fun c_4 hf => ?_)
      refine gz_cVI (av := [.int x3, .int x4]) (st := [.long ((31 : Int64) * x1)]) (pc := 90) dX9_digest_90 kl_RX9_201 rfl (gz_shs c_4) rfl rfl (Nat.le_of_ble_eq_true rfl) (by show d + 0 + 2 + 1 ≤ d + 3; omega) (sX9_toldOf (d := d + 0) (gz_gc hf)) (fun y_3 h_2 hf => ?_)
      refine gz_i2l (pc := 93) dX9_digest_93 ?_
      refine gz_ladd (pc := 94) dX9_digest_94 ?_
      refine gz_lstore_n (lv := [.ref a0, .long (((31 : Int64) * x1) + y_3.toInt64), .retAddr 0, .int x3, .int x4]) (pc := 95) dX9_digest_95 rfl (by decide) rfl ?_
      refine gz_iinc (v := x4 + 1) (lv := [.ref a0, .long (((31 : Int64) * x1) + y_3.toInt64), .retAddr 0, .int x3, .int (x4 + 1)]) (pc := 96) dX9_digest_96 rfl rfl (by decide) rfl ?_
      refine gz_goto (tgt := 74) (pc := 99) dX9_digest_99 rfl ?_
      exact ih a0 (((31 : Int64) * x1) + y_3.toInt64) x3 (x4 + 1) h_2 hf
def fX9_digest_203 (k180 : Nat → Int64 → Int32 → gz_H → Option (Int64 × gz_H)) : Nat → Nat → Int64 → Int32 → Int32 → gz_H → Option (Int64 × gz_H)
  | 0, _, _, _, _, _ => none
  | n + 1, a0, x1, x3, x4, h =>
    gz_ck (gz_sh h a0 9 29) <|
    gz_br (h.2.2.2 a0 7) fun r_2 =>
    gz_ck (gz_inb h r_2 10 x3) <|
    if (h.2.1 r_2 x3.toNatClampNeg) ≤ x4 then (
     k180 a0 x1 (x3 + 1) h
    ) else (
     gz_br (h.2.2.2 a0 8) fun r_5 =>
     gz_ck (gz_inb h r_5 10 (((40 : Int32) * x3) + x4)) <|
     gz_lt (((31 : Int64) * x1) + ((h.2.1 r_5 (((40 : Int32) * x3) + x4).toNatClampNeg).toInt64)) fun (y_7 : Int64) =>
     fX9_digest_203 k180 n a0 y_7 x3 (x4 + 1) h
    )
set_option maxRecDepth 100000 in
set_option maxHeartbeats 1000000 in
theorem sX9_digest_203 {G : gz_G} {d l0 s0 : Nat} {Q : Int64 → gz_H → Prop} {k180 : Nat → Int64 → Int32 → gz_H → Option (Int64 × gz_H)} (hk180 : ∀ (a0 : Nat) (x1 : Int64) (x3 : Int32) (h : gz_H), gz_g (k180 a0 x1 x3 h) Q → gz_Ok G mX9_digest (d + 3, l0, s0, 0, 0) 180 [.ref a0, .long x1, .retAddr 0, .int x3, .retAddr 0] [] h (gz_ql Q)) : ∀ (n : Nat) (a0 : Nat) (x1 : Int64) (x3 : Int32) (x4 : Int32) (h : gz_H), gz_g (fX9_digest_203 k180 n a0 x1 x3 x4 h) Q → gz_Ok G mX9_digest (d + 3, l0, s0, 0, 0) 203 [.ref a0, .long x1, .retAddr 0, .int x3, .int x4] [] h (gz_ql Q) := by
  intro n
  induction n with
  | zero => intro a0 x1 x3 x4 h hf; exact False.elim hf
  | succ n ih =>
    intro a0 x1 x3 x4 h hf
    rw [fX9_digest_203] at hf
    refine gz_iload (pc := 203) dX9_digest_203 rfl ?_
    refine gz_aload_n (pc := 205) dX9_digest_205 rfl rfl ?_
    refine gz_gk hf (fun c_1 hf => ?_)
    refine gz_gb hf (fun r_2 er_2 hf => ?_)
    refine gz_getR (pc := 206) dX9_digest_206 fl_RX9_25 rfl (gz_shs c_1) er_2 ?_
    refine gz_iload_n (pc := 209) dX9_digest_209 rfl rfl ?_
    refine gz_gk hf (fun c_3 hf => ?_)
    refine gz_iald (pc := 210) dX9_digest_210 c_3 ?_
    refine gz_icmp_ge (tgt := 240) (pc := 211) dX9_digest_211 rfl (fun c_4 => ?_) (fun c_4 => ?_)
    · have hf := gz_gT hf c_4
      refine gz_iinc (v := x3 + 1) (lv := [.ref a0, .long x1, .retAddr 0, .int (x3 + 1), .int x4]) (pc := 240) dX9_digest_240 rfl rfl (by decide) rfl ?_
      refine gz_goto (tgt := 180) (pc := 243) dX9_digest_243 rfl ?_
      refine gz_fg (lv := [.ref a0, .long x1, .retAddr 0, .int (x3 + 1), .retAddr 0]) ⟨Or.inr rfl, ⟨Or.inr rfl, ⟨Or.inl rfl, ⟨Or.inr rfl, ⟨Or.inl rfl, trivial⟩⟩⟩⟩⟩ ?_
      exact hk180 a0 x1 (x3 + 1) h hf
    · have hf := gz_gF hf c_4
      refine gz_ldc2 (v := (31 : Int64)) (pc := 214) dX9_digest_214 kc_RX9_331 ?_
      refine gz_lload_n (pc := 217) dX9_digest_217 rfl rfl ?_
      refine gz_lmul (pc := 218) dX9_digest_218 ?_
      refine gz_aload_n (pc := 219) dX9_digest_219 rfl rfl ?_
      refine gz_gb hf (fun r_5 er_5 hf => ?_)
      refine gz_getR (pc := 220) dX9_digest_220 fl_RX9_28 rfl (gz_shs c_1) er_5 ?_
      refine gz_bipush (v := (40 : Int32)) (pc := 223) dX9_digest_223 rfl ?_
      refine gz_iload_n (pc := 225) dX9_digest_225 rfl rfl ?_
      refine gz_imul (pc := 226) dX9_digest_226 ?_
      refine gz_iload (pc := 227) dX9_digest_227 rfl ?_
      refine gz_iadd (pc := 229) dX9_digest_229 ?_
      refine gz_gk hf (fun c_6 hf => ?_)
      refine gz_iald (pc := 230) dX9_digest_230 c_6 ?_
      refine gz_i2l (pc := 231) dX9_digest_231 ?_
      refine gz_ladd (pc := 232) dX9_digest_232 ?_
      refine gz_nmL (fun y_7 ey_7 => ?_)
      have hf := gz_gl ey_7 hf
      refine gz_lstore_n (lv := [.ref a0, .long y_7, .retAddr 0, .int x3, .int x4]) (pc := 233) dX9_digest_233 rfl (by decide) rfl ?_
      refine gz_iinc (v := x4 + 1) (lv := [.ref a0, .long y_7, .retAddr 0, .int x3, .int (x4 + 1)]) (pc := 234) dX9_digest_234 rfl rfl (by decide) rfl ?_
      refine gz_goto (tgt := 203) (pc := 237) dX9_digest_237 rfl ?_
      exact ih a0 y_7 x3 (x4 + 1) h hf
def fX9_digest_270 (k248 : Nat → Int64 → Int32 → gz_H → Option (Int64 × gz_H)) : Nat → Nat → Int64 → Int32 → Int32 → gz_H → Option (Int64 × gz_H)
  | 0, _, _, _, _, _ => none
  | n + 1, a0, x1, x3, x4, h =>
    gz_ck (gz_sh h a0 9 29) <|
    gz_br (h.2.2.2 a0 9) fun r_2 =>
    gz_ck (gz_inb h r_2 10 x3) <|
    if (h.2.1 r_2 x3.toNatClampNeg) ≤ x4 then (
     k248 a0 x1 (x3 + 1) h
    ) else (
     gz_br (h.2.2.2 a0 10) fun r_5 =>
     gz_ck (gz_inb h r_5 10 (((80 : Int32) * x3) + x4)) <|
     gz_lt (((31 : Int64) * x1) + ((h.2.1 r_5 (((80 : Int32) * x3) + x4).toNatClampNeg).toInt64)) fun (y_7 : Int64) =>
     fX9_digest_270 k248 n a0 y_7 x3 (x4 + 1) h
    )
set_option maxRecDepth 100000 in
set_option maxHeartbeats 1000000 in
theorem sX9_digest_270 {G : gz_G} {d l0 s0 : Nat} {Q : Int64 → gz_H → Prop} {k248 : Nat → Int64 → Int32 → gz_H → Option (Int64 × gz_H)} (hk248 : ∀ (a0 : Nat) (x1 : Int64) (x3 : Int32) (h : gz_H), gz_g (k248 a0 x1 x3 h) Q → gz_Ok G mX9_digest (d + 3, l0, s0, 0, 0) 248 [.ref a0, .long x1, .retAddr 0, .int x3, .retAddr 0] [] h (gz_ql Q)) : ∀ (n : Nat) (a0 : Nat) (x1 : Int64) (x3 : Int32) (x4 : Int32) (h : gz_H), gz_g (fX9_digest_270 k248 n a0 x1 x3 x4 h) Q → gz_Ok G mX9_digest (d + 3, l0, s0, 0, 0) 270 [.ref a0, .long x1, .retAddr 0, .int x3, .int x4] [] h (gz_ql Q) := by
  intro n
  induction n with
  | zero => intro a0 x1 x3 x4 h hf; exact False.elim hf
  | succ n ih =>
    intro a0 x1 x3 x4 h hf
    rw [fX9_digest_270] at hf
    refine gz_iload (pc := 270) dX9_digest_270 rfl ?_
    refine gz_aload_n (pc := 272) dX9_digest_272 rfl rfl ?_
    refine gz_gk hf (fun c_1 hf => ?_)
    refine gz_gb hf (fun r_2 er_2 hf => ?_)
    refine gz_getR (pc := 273) dX9_digest_273 fl_RX9_31 rfl (gz_shs c_1) er_2 ?_
    refine gz_iload_n (pc := 276) dX9_digest_276 rfl rfl ?_
    refine gz_gk hf (fun c_3 hf => ?_)
    refine gz_iald (pc := 277) dX9_digest_277 c_3 ?_
    refine gz_icmp_ge (tgt := 307) (pc := 278) dX9_digest_278 rfl (fun c_4 => ?_) (fun c_4 => ?_)
    · have hf := gz_gT hf c_4
      refine gz_iinc (v := x3 + 1) (lv := [.ref a0, .long x1, .retAddr 0, .int (x3 + 1), .int x4]) (pc := 307) dX9_digest_307 rfl rfl (by decide) rfl ?_
      refine gz_goto (tgt := 248) (pc := 310) dX9_digest_310 rfl ?_
      refine gz_fg (lv := [.ref a0, .long x1, .retAddr 0, .int (x3 + 1), .retAddr 0]) ⟨Or.inr rfl, ⟨Or.inr rfl, ⟨Or.inl rfl, ⟨Or.inr rfl, ⟨Or.inl rfl, trivial⟩⟩⟩⟩⟩ ?_
      exact hk248 a0 x1 (x3 + 1) h hf
    · have hf := gz_gF hf c_4
      refine gz_ldc2 (v := (31 : Int64)) (pc := 281) dX9_digest_281 kc_RX9_331 ?_
      refine gz_lload_n (pc := 284) dX9_digest_284 rfl rfl ?_
      refine gz_lmul (pc := 285) dX9_digest_285 ?_
      refine gz_aload_n (pc := 286) dX9_digest_286 rfl rfl ?_
      refine gz_gb hf (fun r_5 er_5 hf => ?_)
      refine gz_getR (pc := 287) dX9_digest_287 fl_RX9_34 rfl (gz_shs c_1) er_5 ?_
      refine gz_bipush (v := (80 : Int32)) (pc := 290) dX9_digest_290 rfl ?_
      refine gz_iload_n (pc := 292) dX9_digest_292 rfl rfl ?_
      refine gz_imul (pc := 293) dX9_digest_293 ?_
      refine gz_iload (pc := 294) dX9_digest_294 rfl ?_
      refine gz_iadd (pc := 296) dX9_digest_296 ?_
      refine gz_gk hf (fun c_6 hf => ?_)
      refine gz_iald (pc := 297) dX9_digest_297 c_6 ?_
      refine gz_i2l (pc := 298) dX9_digest_298 ?_
      refine gz_ladd (pc := 299) dX9_digest_299 ?_
      refine gz_nmL (fun y_7 ey_7 => ?_)
      have hf := gz_gl ey_7 hf
      refine gz_lstore_n (lv := [.ref a0, .long y_7, .retAddr 0, .int x3, .int x4]) (pc := 300) dX9_digest_300 rfl (by decide) rfl ?_
      refine gz_iinc (v := x4 + 1) (lv := [.ref a0, .long y_7, .retAddr 0, .int x3, .int (x4 + 1)]) (pc := 301) dX9_digest_301 rfl rfl (by decide) rfl ?_
      refine gz_goto (tgt := 270) (pc := 304) dX9_digest_304 rfl ?_
      exact ih a0 y_7 x3 (x4 + 1) h hf
def fX9_digest_248  : Nat → Nat → Int64 → Int32 → gz_H → Option (Int64 × gz_H)
  | 0, _, _, _, _ => none
  | n + 1, a0, x1, x3, h =>
    if (4 : Int32) ≤ x3 then (
     some (x1, h)
    ) else (
     gz_ck (gz_sh h a0 9 29) <|
     gz_br (h.2.2.2 a0 9) fun r_3 =>
     gz_ck (gz_inb h r_3 10 x3) <|
     gz_lt (((31 : Int64) * x1) + ((h.2.1 r_3 x3.toNatClampNeg).toInt64)) fun (y_5 : Int64) =>
     fX9_digest_270 (fun z0 z1 z2 zh => fX9_digest_248 n z0 z1 z2 zh) gz_fu a0 y_5 x3 (0 : Int32) h
    )
set_option maxRecDepth 100000 in
set_option maxHeartbeats 1000000 in
theorem sX9_digest_248 {G : gz_G} {d l0 s0 : Nat} {Q : Int64 → gz_H → Prop} : ∀ (n : Nat) (a0 : Nat) (x1 : Int64) (x3 : Int32) (h : gz_H), gz_g (fX9_digest_248  n a0 x1 x3 h) Q → gz_Ok G mX9_digest (d + 3, l0, s0, 0, 0) 248 [.ref a0, .long x1, .retAddr 0, .int x3, .retAddr 0] [] h (gz_ql Q) := by
  intro n
  induction n with
  | zero => intro a0 x1 x3 h hf; exact False.elim hf
  | succ n ih =>
    intro a0 x1 x3 h hf
    rw [fX9_digest_248] at hf
    refine gz_iload_n (pc := 248) dX9_digest_248 rfl rfl ?_
    refine gz_iconst (v := (4 : Int32)) (pc := 249) dX9_digest_249 rfl ?_
    refine gz_icmp_ge (tgt := 313) (pc := 250) dX9_digest_250 rfl (fun c_1 => ?_) (fun c_1 => ?_)
    · have hf := gz_gT hf c_1
      refine gz_lload_n (pc := 313) dX9_digest_313 rfl rfl ?_
      exact gz_lrt (pc := 314) dX9_digest_314 rfl hf
    · have hf := gz_gF hf c_1
      refine gz_ldc2 (v := (31 : Int64)) (pc := 253) dX9_digest_253 kc_RX9_331 ?_
      refine gz_lload_n (pc := 256) dX9_digest_256 rfl rfl ?_
      refine gz_lmul (pc := 257) dX9_digest_257 ?_
      refine gz_aload_n (pc := 258) dX9_digest_258 rfl rfl ?_
      refine gz_gk hf (fun c_2 hf => ?_)
      refine gz_gb hf (fun r_3 er_3 hf => ?_)
      refine gz_getR (pc := 259) dX9_digest_259 fl_RX9_31 rfl (gz_shs c_2) er_3 ?_
      refine gz_iload_n (pc := 262) dX9_digest_262 rfl rfl ?_
      refine gz_gk hf (fun c_4 hf => ?_)
      refine gz_iald (pc := 263) dX9_digest_263 c_4 ?_
      refine gz_i2l (pc := 264) dX9_digest_264 ?_
      refine gz_ladd (pc := 265) dX9_digest_265 ?_
      refine gz_nmL (fun y_5 ey_5 => ?_)
      have hf := gz_gl ey_5 hf
      refine gz_lstore_n (lv := [.ref a0, .long y_5, .retAddr 0, .int x3, .retAddr 0]) (pc := 266) dX9_digest_266 rfl (by decide) rfl ?_
      refine gz_iconst (v := (0 : Int32)) (pc := 267) dX9_digest_267 rfl ?_
      refine gz_istore (lv := [.ref a0, .long y_5, .retAddr 0, .int x3, .int (0 : Int32)]) (pc := 268) dX9_digest_268 (by decide) rfl ?_
      exact sX9_digest_270 ih gz_fu a0 y_5 x3 (0 : Int32) h hf
def fX9_digest_180  : Nat → Nat → Int64 → Int32 → gz_H → Option (Int64 × gz_H)
  | 0, _, _, _, _ => none
  | n + 1, a0, x1, x3, h =>
    if (6 : Int32) ≤ x3 then (
     fX9_digest_248 gz_fu a0 x1 (0 : Int32) h
    ) else (
     gz_ck (gz_sh h a0 9 29) <|
     gz_br (h.2.2.2 a0 7) fun r_3 =>
     gz_ck (gz_inb h r_3 10 x3) <|
     gz_lt (((31 : Int64) * x1) + ((h.2.1 r_3 x3.toNatClampNeg).toInt64)) fun (y_5 : Int64) =>
     fX9_digest_203 (fun z0 z1 z2 zh => fX9_digest_180 n z0 z1 z2 zh) gz_fu a0 y_5 x3 (0 : Int32) h
    )
set_option maxRecDepth 100000 in
set_option maxHeartbeats 1000000 in
theorem sX9_digest_180 {G : gz_G} {d l0 s0 : Nat} {Q : Int64 → gz_H → Prop} : ∀ (n : Nat) (a0 : Nat) (x1 : Int64) (x3 : Int32) (h : gz_H), gz_g (fX9_digest_180  n a0 x1 x3 h) Q → gz_Ok G mX9_digest (d + 3, l0, s0, 0, 0) 180 [.ref a0, .long x1, .retAddr 0, .int x3, .retAddr 0] [] h (gz_ql Q) := by
  intro n
  induction n with
  | zero => intro a0 x1 x3 h hf; exact False.elim hf
  | succ n ih =>
    intro a0 x1 x3 h hf
    rw [fX9_digest_180] at hf
    refine gz_iload_n (pc := 180) dX9_digest_180 rfl rfl ?_
    refine gz_bipush (v := (6 : Int32)) (pc := 181) dX9_digest_181 rfl ?_
    refine gz_icmp_ge (tgt := 246) (pc := 183) dX9_digest_183 rfl (fun c_1 => ?_) (fun c_1 => ?_)
    · have hf := gz_gT hf c_1
      refine gz_iconst (v := (0 : Int32)) (pc := 246) dX9_digest_246 rfl ?_
      refine gz_istore_n (lv := [.ref a0, .long x1, .retAddr 0, .int (0 : Int32), .retAddr 0]) (pc := 247) dX9_digest_247 rfl (by decide) rfl ?_
      exact sX9_digest_248 gz_fu a0 x1 (0 : Int32) h hf
    · have hf := gz_gF hf c_1
      refine gz_ldc2 (v := (31 : Int64)) (pc := 186) dX9_digest_186 kc_RX9_331 ?_
      refine gz_lload_n (pc := 189) dX9_digest_189 rfl rfl ?_
      refine gz_lmul (pc := 190) dX9_digest_190 ?_
      refine gz_aload_n (pc := 191) dX9_digest_191 rfl rfl ?_
      refine gz_gk hf (fun c_2 hf => ?_)
      refine gz_gb hf (fun r_3 er_3 hf => ?_)
      refine gz_getR (pc := 192) dX9_digest_192 fl_RX9_25 rfl (gz_shs c_2) er_3 ?_
      refine gz_iload_n (pc := 195) dX9_digest_195 rfl rfl ?_
      refine gz_gk hf (fun c_4 hf => ?_)
      refine gz_iald (pc := 196) dX9_digest_196 c_4 ?_
      refine gz_i2l (pc := 197) dX9_digest_197 ?_
      refine gz_ladd (pc := 198) dX9_digest_198 ?_
      refine gz_nmL (fun y_5 ey_5 => ?_)
      have hf := gz_gl ey_5 hf
      refine gz_lstore_n (lv := [.ref a0, .long y_5, .retAddr 0, .int x3, .retAddr 0]) (pc := 199) dX9_digest_199 rfl (by decide) rfl ?_
      refine gz_iconst (v := (0 : Int32)) (pc := 200) dX9_digest_200 rfl ?_
      refine gz_istore (lv := [.ref a0, .long y_5, .retAddr 0, .int x3, .int (0 : Int32)]) (pc := 201) dX9_digest_201 (by decide) rfl ?_
      exact sX9_digest_203 ih gz_fu a0 y_5 x3 (0 : Int32) h hf
def fX9_digest_147  : Nat → Nat → Int64 → Int32 → gz_H → Option (Int64 × gz_H)
  | 0, _, _, _, _ => none
  | n + 1, a0, x1, x3, h =>
    if (4 : Int32) ≤ x3 then (
     fX9_digest_180 gz_fu a0 x1 (0 : Int32) h
    ) else (
     gz_ck (gz_sh h a0 9 29) <|
     gz_br (h.2.2.2 a0 0) fun r_3 =>
     gz_ck (gz_inb h r_3 10 (((2256 : Int32) * x3) + (0 : Int32))) <|
     gz_lt (((31 : Int64) * x1) + ((h.2.1 r_3 (((2256 : Int32) * x3) + (0 : Int32)).toNatClampNeg).toInt64)) fun (y_5 : Int64) =>
     fX9_digest_147 n a0 y_5 (x3 + 1) h
    )
set_option maxRecDepth 100000 in
set_option maxHeartbeats 1000000 in
theorem sX9_digest_147 {G : gz_G} {d l0 s0 : Nat} {Q : Int64 → gz_H → Prop} : ∀ (n : Nat) (a0 : Nat) (x1 : Int64) (x3 : Int32) (h : gz_H), gz_g (fX9_digest_147  n a0 x1 x3 h) Q → gz_Ok G mX9_digest (d + 3, l0, s0, 0, 0) 147 [.ref a0, .long x1, .retAddr 0, .int x3, .retAddr 0] [] h (gz_ql Q) := by
  intro n
  induction n with
  | zero => intro a0 x1 x3 h hf; exact False.elim hf
  | succ n ih =>
    intro a0 x1 x3 h hf
    rw [fX9_digest_147] at hf
    refine gz_iload_n (pc := 147) dX9_digest_147 rfl rfl ?_
    refine gz_iconst (v := (4 : Int32)) (pc := 148) dX9_digest_148 rfl ?_
    refine gz_icmp_ge (tgt := 178) (pc := 149) dX9_digest_149 rfl (fun c_1 => ?_) (fun c_1 => ?_)
    · have hf := gz_gT hf c_1
      refine gz_iconst (v := (0 : Int32)) (pc := 178) dX9_digest_178 rfl ?_
      refine gz_istore_n (lv := [.ref a0, .long x1, .retAddr 0, .int (0 : Int32), .retAddr 0]) (pc := 179) dX9_digest_179 rfl (by decide) rfl ?_
      exact sX9_digest_180 gz_fu a0 x1 (0 : Int32) h hf
    · have hf := gz_gF hf c_1
      refine gz_ldc2 (v := (31 : Int64)) (pc := 152) dX9_digest_152 kc_RX9_331 ?_
      refine gz_lload_n (pc := 155) dX9_digest_155 rfl rfl ?_
      refine gz_lmul (pc := 156) dX9_digest_156 ?_
      refine gz_aload_n (pc := 157) dX9_digest_157 rfl rfl ?_
      refine gz_gk hf (fun c_2 hf => ?_)
      refine gz_gb hf (fun r_3 er_3 hf => ?_)
      refine gz_getR (pc := 158) dX9_digest_158 fl_RX9_7 rfl (gz_shs c_2) er_3 ?_
      refine gz_sipush (v := (2256 : Int32)) (pc := 161) dX9_digest_161 rfl ?_
      refine gz_iload_n (pc := 164) dX9_digest_164 rfl rfl ?_
      refine gz_imul (pc := 165) dX9_digest_165 ?_
      refine gz_iconst (v := (0 : Int32)) (pc := 166) dX9_digest_166 rfl ?_
      refine gz_iadd (pc := 167) dX9_digest_167 ?_
      refine gz_gk hf (fun c_4 hf => ?_)
      refine gz_iald (pc := 168) dX9_digest_168 c_4 ?_
      refine gz_i2l (pc := 169) dX9_digest_169 ?_
      refine gz_ladd (pc := 170) dX9_digest_170 ?_
      refine gz_nmL (fun y_5 ey_5 => ?_)
      have hf := gz_gl ey_5 hf
      refine gz_lstore_n (lv := [.ref a0, .long y_5, .retAddr 0, .int x3, .retAddr 0]) (pc := 171) dX9_digest_171 rfl (by decide) rfl ?_
      refine gz_iinc (v := x3 + 1) (lv := [.ref a0, .long y_5, .retAddr 0, .int (x3 + 1), .retAddr 0]) (pc := 172) dX9_digest_172 rfl rfl (by decide) rfl ?_
      refine gz_goto (tgt := 147) (pc := 175) dX9_digest_175 rfl ?_
      exact ih a0 y_5 (x3 + 1) h hf
def fX9_digest_63  : Nat → Nat → Int64 → Int32 → gz_H → Option (Int64 × gz_H)
  | 0, _, _, _, _ => none
  | n + 1, a0, x1, x3, h =>
    gz_ck (gz_sh h a0 9 29) <|
    if (h.2.1 a0 3) ≤ x3 then (
     fX9_digest_147 gz_fu a0 x1 (1 : Int32) h
    ) else (
     fX9_digest_74 (fun z0 z1 z2 zh => fX9_digest_63 n z0 z1 z2 zh) gz_fu a0 x1 x3 (0 : Int32) h
    )
set_option maxRecDepth 100000 in
set_option maxHeartbeats 1000000 in
theorem sX9_digest_63 {G : gz_G} {d l0 s0 : Nat} {Q : Int64 → gz_H → Prop} : ∀ (n : Nat) (a0 : Nat) (x1 : Int64) (x3 : Int32) (h : gz_H), gz_g (fX9_digest_63  n a0 x1 x3 h) Q → gz_Ok G mX9_digest (d + 3, l0, s0, 0, 0) 63 [.ref a0, .long x1, .retAddr 0, .int x3, .retAddr 0] [] h (gz_ql Q) := by
  intro n
  induction n with
  | zero => intro a0 x1 x3 h hf; exact False.elim hf
  | succ n ih =>
    intro a0 x1 x3 h hf
    rw [fX9_digest_63] at hf
    refine gz_iload_n (pc := 63) dX9_digest_63 rfl rfl ?_
    refine gz_aload_n (pc := 64) dX9_digest_64 rfl rfl ?_
    refine gz_gk hf (fun c_1 hf => ?_)
    refine gz_getI (pc := 65) dX9_digest_65 fl_RX9_158 rfl (gz_shs c_1) ?_
    refine gz_icmp_ge (tgt := 145) (pc := 68) dX9_digest_68 rfl (fun c_2 => ?_) (fun c_2 => ?_)
    · have hf := gz_gT hf c_2
      refine gz_iconst (v := (1 : Int32)) (pc := 145) dX9_digest_145 rfl ?_
      refine gz_istore_n (lv := [.ref a0, .long x1, .retAddr 0, .int (1 : Int32), .retAddr 0]) (pc := 146) dX9_digest_146 rfl (by decide) rfl ?_
      exact sX9_digest_147 gz_fu a0 x1 (1 : Int32) h hf
    · have hf := gz_gF hf c_2
      refine gz_iconst (v := (0 : Int32)) (pc := 71) dX9_digest_71 rfl ?_
      refine gz_istore (lv := [.ref a0, .long x1, .retAddr 0, .int x3, .int (0 : Int32)]) (pc := 72) dX9_digest_72 (by decide) rfl ?_
      exact sX9_digest_74 ih gz_fu a0 x1 x3 (0 : Int32) h hf
def fX9_digest_33  : Nat → Nat → Int64 → Int32 → gz_H → Option (Int64 × gz_H)
  | 0, _, _, _, _ => none
  | n + 1, a0, x1, x3, h =>
    gz_ck (gz_sh h a0 9 29) <|
    if (h.2.1 a0 1) ≤ x3 then (
     fX9_digest_63 gz_fu a0 x1 (0 : Int32) h
    ) else (
     gz_br (h.2.2.2 a0 2) fun r_3 =>
     gz_ck (gz_inb h r_3 10 x3) <|
     gz_lt (((31 : Int64) * x1) + ((h.2.1 r_3 x3.toNatClampNeg).toInt64)) fun (y_5 : Int64) =>
     fX9_digest_33 n a0 y_5 (x3 + 1) h
    )
set_option maxRecDepth 100000 in
set_option maxHeartbeats 1000000 in
theorem sX9_digest_33 {G : gz_G} {d l0 s0 : Nat} {Q : Int64 → gz_H → Prop} : ∀ (n : Nat) (a0 : Nat) (x1 : Int64) (x3 : Int32) (h : gz_H), gz_g (fX9_digest_33  n a0 x1 x3 h) Q → gz_Ok G mX9_digest (d + 3, l0, s0, 0, 0) 33 [.ref a0, .long x1, .retAddr 0, .int x3, .retAddr 0] [] h (gz_ql Q) := by
  intro n
  induction n with
  | zero => intro a0 x1 x3 h hf; exact False.elim hf
  | succ n ih =>
    intro a0 x1 x3 h hf
    rw [fX9_digest_33] at hf
    refine gz_iload_n (pc := 33) dX9_digest_33 rfl rfl ?_
    refine gz_aload_n (pc := 34) dX9_digest_34 rfl rfl ?_
    refine gz_gk hf (fun c_1 hf => ?_)
    refine gz_getI (pc := 35) dX9_digest_35 fl_RX9_155 rfl (gz_shs c_1) ?_
    refine gz_icmp_ge (tgt := 61) (pc := 38) dX9_digest_38 rfl (fun c_2 => ?_) (fun c_2 => ?_)
    · have hf := gz_gT hf c_2
      refine gz_iconst (v := (0 : Int32)) (pc := 61) dX9_digest_61 rfl ?_
      refine gz_istore_n (lv := [.ref a0, .long x1, .retAddr 0, .int (0 : Int32), .retAddr 0]) (pc := 62) dX9_digest_62 rfl (by decide) rfl ?_
      exact sX9_digest_63 gz_fu a0 x1 (0 : Int32) h hf
    · have hf := gz_gF hf c_2
      refine gz_ldc2 (v := (31 : Int64)) (pc := 41) dX9_digest_41 kc_RX9_331 ?_
      refine gz_lload_n (pc := 44) dX9_digest_44 rfl rfl ?_
      refine gz_lmul (pc := 45) dX9_digest_45 ?_
      refine gz_aload_n (pc := 46) dX9_digest_46 rfl rfl ?_
      refine gz_gb hf (fun r_3 er_3 hf => ?_)
      refine gz_getR (pc := 47) dX9_digest_47 fl_RX9_13 rfl (gz_shs c_1) er_3 ?_
      refine gz_iload_n (pc := 50) dX9_digest_50 rfl rfl ?_
      refine gz_gk hf (fun c_4 hf => ?_)
      refine gz_iald (pc := 51) dX9_digest_51 c_4 ?_
      refine gz_i2l (pc := 52) dX9_digest_52 ?_
      refine gz_ladd (pc := 53) dX9_digest_53 ?_
      refine gz_nmL (fun y_5 ey_5 => ?_)
      have hf := gz_gl ey_5 hf
      refine gz_lstore_n (lv := [.ref a0, .long y_5, .retAddr 0, .int x3, .retAddr 0]) (pc := 54) dX9_digest_54 rfl (by decide) rfl ?_
      refine gz_iinc (v := x3 + 1) (lv := [.ref a0, .long y_5, .retAddr 0, .int (x3 + 1), .retAddr 0]) (pc := 55) dX9_digest_55 rfl rfl (by decide) rfl ?_
      refine gz_goto (tgt := 33) (pc := 58) dX9_digest_58 rfl ?_
      exact ih a0 y_5 (x3 + 1) h hf
def fX9_digest_6  : Nat → Nat → Int64 → Int32 → gz_H → Option (Int64 × gz_H)
  | 0, _, _, _, _ => none
  | n + 1, a0, x1, x3, h =>
    if (9 : Int32) ≤ x3 then (
     fX9_digest_33 gz_fu a0 x1 (0 : Int32) h
    ) else (
     gz_ck (gz_sh h a0 9 29) <|
     gz_b2 (fX9_countOf a0 x3 h) fun y_3 h_2 =>
     fX9_digest_6 n a0 (((31 : Int64) * x1) + y_3.toInt64) (x3 + 1) h_2
    )
set_option maxRecDepth 100000 in
set_option maxHeartbeats 1000000 in
theorem sX9_digest_6 {G : gz_G} {d l0 s0 : Nat} {Q : Int64 → gz_H → Prop} : ∀ (n : Nat) (a0 : Nat) (x1 : Int64) (x3 : Int32) (h : gz_H), gz_g (fX9_digest_6  n a0 x1 x3 h) Q → gz_Ok G mX9_digest (d + 3, l0, s0, 0, 0) 6 [.ref a0, .long x1, .retAddr 0, .int x3, .retAddr 0] [] h (gz_ql Q) := by
  intro n
  induction n with
  | zero => intro a0 x1 x3 h hf; exact False.elim hf
  | succ n ih =>
    intro a0 x1 x3 h hf
    rw [fX9_digest_6] at hf
    refine gz_iload_n (pc := 6) dX9_digest_6 rfl rfl ?_
    refine gz_bipush (v := (9 : Int32)) (pc := 7) dX9_digest_7 rfl ?_
    refine gz_icmp_ge (tgt := 31) (pc := 9) dX9_digest_9 rfl (fun c_1 => ?_) (fun c_1 => ?_)
    · have hf := gz_gT hf c_1
      refine gz_iconst (v := (0 : Int32)) (pc := 31) dX9_digest_31 rfl ?_
      refine gz_istore_n (lv := [.ref a0, .long x1, .retAddr 0, .int (0 : Int32), .retAddr 0]) (pc := 32) dX9_digest_32 rfl (by decide) rfl ?_
      exact sX9_digest_33 gz_fu a0 x1 (0 : Int32) h hf
    · have hf := gz_gF hf c_1
      refine gz_ldc2 (v := (31 : Int64)) (pc := 12) dX9_digest_12 kc_RX9_331 ?_
      refine gz_lload_n (pc := 15) dX9_digest_15 rfl rfl ?_
      refine gz_lmul (pc := 16) dX9_digest_16 ?_
      refine gz_aload_n (pc := 17) dX9_digest_17 rfl rfl ?_
      refine gz_iload_n (pc := 18) dX9_digest_18 rfl rfl ?_
      refine gz_gk hf (fun c_4 hf => ?_)
      refine gz_cVI (av := [.int x3]) (st := [.long ((31 : Int64) * x1)]) (pc := 19) dX9_digest_19 kl_RX9_326 rfl (gz_shs c_4) rfl rfl (Nat.le_of_ble_eq_true rfl) (by show d + 0 + 2 + 1 ≤ d + 3; omega) (sX9_countOf (d := d + 0) (gz_gc hf)) (fun y_3 h_2 hf => ?_)
      refine gz_i2l (pc := 22) dX9_digest_22 ?_
      refine gz_ladd (pc := 23) dX9_digest_23 ?_
      refine gz_lstore_n (lv := [.ref a0, .long (((31 : Int64) * x1) + y_3.toInt64), .retAddr 0, .int x3, .retAddr 0]) (pc := 24) dX9_digest_24 rfl (by decide) rfl ?_
      refine gz_iinc (v := x3 + 1) (lv := [.ref a0, .long (((31 : Int64) * x1) + y_3.toInt64), .retAddr 0, .int (x3 + 1), .retAddr 0]) (pc := 25) dX9_digest_25 rfl rfl (by decide) rfl ?_
      refine gz_goto (tgt := 6) (pc := 28) dX9_digest_28 rfl ?_
      exact ih a0 (((31 : Int64) * x1) + y_3.toInt64) (x3 + 1) h_2 hf
def fX9_digest_0  (a0 : Nat) (h : gz_H) : Option (Int64 × gz_H) :=
    fX9_digest_6 gz_fu a0 (17 : Int64) (0 : Int32) h
set_option maxRecDepth 100000 in
set_option maxHeartbeats 1000000 in
theorem sX9_digest_0 {G : gz_G} {d l0 s0 : Nat} {Q : Int64 → gz_H → Prop} (a0 : Nat) (h : gz_H) (hf : gz_g (fX9_digest_0  a0 h) Q) : gz_Ok G mX9_digest (d + 3, l0, s0, 0, 0) 0 [.ref a0, .retAddr 0, .retAddr 0, .retAddr 0, .retAddr 0] [] h (gz_ql Q) := by
  unfold fX9_digest_0 at hf
  refine gz_ldc2 (v := (17 : Int64)) (pc := 0) dX9_digest_0 kc_RX9_329 ?_
  refine gz_lstore_n (lv := [.ref a0, .long (17 : Int64), .retAddr 0, .retAddr 0, .retAddr 0]) (pc := 3) dX9_digest_3 rfl (by decide) rfl ?_
  refine gz_iconst (v := (0 : Int32)) (pc := 4) dX9_digest_4 rfl ?_
  refine gz_istore_n (lv := [.ref a0, .long (17 : Int64), .retAddr 0, .int (0 : Int32), .retAddr 0]) (pc := 5) dX9_digest_5 rfl (by decide) rfl ?_
  exact sX9_digest_6 gz_fu a0 (17 : Int64) (0 : Int32) h hf
def fX9_digest (a0 : Nat) (h : gz_H) : Option (Int64 × gz_H) := fX9_digest_0 a0 h
theorem sX9_digest {G : gz_G} {d : Nat} {a0 : Nat} {h : gz_H} {Q : Int64 → gz_H → Prop} (hf : gz_g (fX9_digest a0 h) Q) : gz_Cl G mX9_digest (d + 3) 0 0 [.ref a0] h (gz_ql Q) := gz_cl_of (lo := [.ref a0, .retAddr 0, .retAddr 0, .retAddr 0, .retAddr 0]) (by decide) rfl rfl (Nat.le_of_ble_eq_true rfl) (sX9_digest_0 a0 h hf)
