theorem dX9_mix_0 : decode cX9_mix 0 = .ok (.aload_n 0, 1) := by decide +kernel
theorem dX9_mix_1 : decode cX9_mix 1 = .ok (.iload_n 1, 1) := by decide +kernel
theorem dX9_mix_2 : decode cX9_mix 2 = .ok (.invokevirtual 196, 3) := by decide +kernel
theorem dX9_mix_5 : decode cX9_mix 5 = .ok (.ifCond .eq 16, 3) := by decide +kernel
theorem dX9_mix_8 : decode cX9_mix 8 = .ok (.aload_n 0, 1) := by decide +kernel
theorem dX9_mix_9 : decode cX9_mix 9 = .ok (.iload_n 2, 1) := by decide +kernel
theorem dX9_mix_10 : decode cX9_mix 10 = .ok (.invokevirtual 196, 3) := by decide +kernel
theorem dX9_mix_13 : decode cX9_mix 13 = .ok (.ifCond .eq 8, 3) := by decide +kernel
theorem dX9_mix_16 : decode cX9_mix 16 = .ok (.iload_n 1, 1) := by decide +kernel
theorem dX9_mix_17 : decode cX9_mix 17 = .ok (.iload_n 2, 1) := by decide +kernel
theorem dX9_mix_18 : decode cX9_mix 18 = .ok (.if_icmp .ne 5, 3) := by decide +kernel
theorem dX9_mix_21 : decode cX9_mix 21 = .ok (.iconst (-1), 1) := by decide +kernel
theorem dX9_mix_22 : decode cX9_mix 22 = .ok (.ireturn, 1) := by decide +kernel
theorem dX9_mix_23 : decode cX9_mix 23 = .ok (.aload_n 0, 1) := by decide +kernel
theorem dX9_mix_24 : decode cX9_mix 24 = .ok (.iload_n 1, 1) := by decide +kernel
theorem dX9_mix_25 : decode cX9_mix 25 = .ok (.iload_n 2, 1) := by decide +kernel
theorem dX9_mix_26 : decode cX9_mix 26 = .ok (.invokevirtual 225, 3) := by decide +kernel
theorem dX9_mix_29 : decode cX9_mix 29 = .ok (.istore_n 3, 1) := by decide +kernel
theorem dX9_mix_30 : decode cX9_mix 30 = .ok (.iload_n 3, 1) := by decide +kernel
theorem dX9_mix_31 : decode cX9_mix 31 = .ok (.ifCond .eq 5, 3) := by decide +kernel
theorem dX9_mix_34 : decode cX9_mix 34 = .ok (.iload_n 3, 1) := by decide +kernel
theorem dX9_mix_35 : decode cX9_mix 35 = .ok (.ireturn, 1) := by decide +kernel
theorem dX9_mix_36 : decode cX9_mix 36 = .ok (.aload_n 0, 1) := by decide +kernel
theorem dX9_mix_37 : decode cX9_mix 37 = .ok (.invokevirtual 228, 3) := by decide +kernel
theorem dX9_mix_40 : decode cX9_mix 40 = .ok (.aload_n 0, 1) := by decide +kernel
theorem dX9_mix_41 : decode cX9_mix 41 = .ok (.getfield 22, 3) := by decide +kernel
theorem dX9_mix_44 : decode cX9_mix 44 = .ok (.iload_n 1, 1) := by decide +kernel
theorem dX9_mix_45 : decode cX9_mix 45 = .ok (.iaload, 1) := by decide +kernel
theorem dX9_mix_46 : decode cX9_mix 46 = .ok (.aload_n 0, 1) := by decide +kernel
theorem dX9_mix_47 : decode cX9_mix 47 = .ok (.getfield 22, 3) := by decide +kernel
theorem dX9_mix_50 : decode cX9_mix 50 = .ok (.iload_n 2, 1) := by decide +kernel
theorem dX9_mix_51 : decode cX9_mix 51 = .ok (.iaload, 1) := by decide +kernel
theorem dX9_mix_52 : decode cX9_mix 52 = .ok (.if_icmp .gt 23, 3) := by decide +kernel
theorem dX9_mix_55 : decode cX9_mix 55 = .ok (.aload_n 0, 1) := by decide +kernel
theorem dX9_mix_56 : decode cX9_mix 56 = .ok (.getfield 22, 3) := by decide +kernel
theorem dX9_mix_59 : decode cX9_mix 59 = .ok (.iload_n 1, 1) := by decide +kernel
theorem dX9_mix_60 : decode cX9_mix 60 = .ok (.iaload, 1) := by decide +kernel
theorem dX9_mix_61 : decode cX9_mix 61 = .ok (.aload_n 0, 1) := by decide +kernel
theorem dX9_mix_62 : decode cX9_mix 62 = .ok (.getfield 22, 3) := by decide +kernel
theorem dX9_mix_65 : decode cX9_mix 65 = .ok (.iload_n 2, 1) := by decide +kernel
theorem dX9_mix_66 : decode cX9_mix 66 = .ok (.iaload, 1) := by decide +kernel
theorem dX9_mix_67 : decode cX9_mix 67 = .ok (.if_icmp .ne 12, 3) := by decide +kernel
theorem dX9_mix_70 : decode cX9_mix 70 = .ok (.iload_n 1, 1) := by decide +kernel
theorem dX9_mix_71 : decode cX9_mix 71 = .ok (.iload_n 2, 1) := by decide +kernel
theorem dX9_mix_72 : decode cX9_mix 72 = .ok (.if_icmp .ge 7, 3) := by decide +kernel
theorem dX9_mix_75 : decode cX9_mix 75 = .ok (.iconst 1, 1) := by decide +kernel
theorem dX9_mix_76 : decode cX9_mix 76 = .ok (.goto 4, 3) := by decide +kernel
theorem dX9_mix_79 : decode cX9_mix 79 = .ok (.iconst 0, 1) := by decide +kernel
theorem dX9_mix_80 : decode cX9_mix 80 = .ok (.istore 4, 2) := by decide +kernel
theorem dX9_mix_82 : decode cX9_mix 82 = .ok (.aload_n 0, 1) := by decide +kernel
theorem dX9_mix_83 : decode cX9_mix 83 = .ok (.iload 4, 2) := by decide +kernel
theorem dX9_mix_85 : decode cX9_mix 85 = .ok (.ifCond .eq 7, 3) := by decide +kernel
theorem dX9_mix_88 : decode cX9_mix 88 = .ok (.iload_n 1, 1) := by decide +kernel
theorem dX9_mix_89 : decode cX9_mix 89 = .ok (.goto 4, 3) := by decide +kernel
theorem dX9_mix_92 : decode cX9_mix 92 = .ok (.iload_n 2, 1) := by decide +kernel
theorem dX9_mix_93 : decode cX9_mix 93 = .ok (.iconst 4, 1) := by decide +kernel
theorem dX9_mix_94 : decode cX9_mix 94 = .ok (.invokevirtual 201, 3) := by decide +kernel
theorem dX9_mix_97 : decode cX9_mix 97 = .ok (.istore 5, 2) := by decide +kernel
theorem dX9_mix_99 : decode cX9_mix 99 = .ok (.iload 5, 2) := by decide +kernel
theorem dX9_mix_101 : decode cX9_mix 101 = .ok (.bipush (-9), 2) := by decide +kernel
theorem dX9_mix_103 : decode cX9_mix 103 = .ok (.if_icmp .eq 20, 3) := by decide +kernel
theorem dX9_mix_106 : decode cX9_mix 106 = .ok (.aload_n 0, 1) := by decide +kernel
theorem dX9_mix_107 : decode cX9_mix 107 = .ok (.iload 4, 2) := by decide +kernel
theorem dX9_mix_109 : decode cX9_mix 109 = .ok (.ifCond .eq 7, 3) := by decide +kernel
theorem dX9_mix_112 : decode cX9_mix 112 = .ok (.iload_n 2, 1) := by decide +kernel
theorem dX9_mix_113 : decode cX9_mix 113 = .ok (.goto 4, 3) := by decide +kernel
theorem dX9_mix_116 : decode cX9_mix 116 = .ok (.iload_n 1, 1) := by decide +kernel
theorem dX9_mix_117 : decode cX9_mix 117 = .ok (.iload 5, 2) := by decide +kernel
theorem dX9_mix_119 : decode cX9_mix 119 = .ok (.invokevirtual 231, 3) := by decide +kernel
theorem dX9_mix_122 : decode cX9_mix 122 = .ok (.pop, 1) := by decide +kernel
theorem dX9_mix_123 : decode cX9_mix 123 = .ok (.iload 5, 2) := by decide +kernel
theorem dX9_mix_125 : decode cX9_mix 125 = .ok (.ireturn, 1) := by decide +kernel
def fX9_mix_117  (x5 : Int32) (b0 : Nat) (w1 : Int32) (h : gz_H) : Option (Int32 × gz_H) :=
    gz_ck (gz_sh h b0 9 29) <|
    gz_b2 (fX9_doGive b0 w1 x5 h) fun y_2 h_1 =>
    some (x5, h_1)
set_option maxRecDepth 100000 in
set_option maxHeartbeats 1000000 in
theorem sX9_mix_117 {G : gz_G} {d l0 s0 : Nat} {Q : Int32 → gz_H → Prop} (x5 : Int32) (b0 : Nat) (w1 : Int32) (h : gz_H) (hf : gz_g (fX9_mix_117  x5 b0 w1 h) Q) : gz_Ok G mX9_mix (d + 3, l0, s0, 0, 0) 117 [.retAddr 0, .retAddr 0, .retAddr 0, .retAddr 0, .retAddr 0, .int x5] [.int w1, .ref b0] h (gz_qi Q) := by
  unfold fX9_mix_117 at hf
  refine gz_iload (pc := 117) dX9_mix_117 rfl ?_
  refine gz_gk hf (fun c_3 hf => ?_)
  refine gz_cVI (av := [.int w1, .int x5]) (st := []) (pc := 119) dX9_mix_119 kl_RX9_231 rfl (gz_shs c_3) rfl rfl (Nat.le_of_ble_eq_true rfl) (by show d + 0 + 2 + 1 ≤ d + 3; omega) (sX9_doGive (d := d + 0) (gz_gc hf)) (fun y_2 h_1 hf => ?_)
  refine gz_pop (pc := 122) dX9_mix_122 rfl ?_
  refine gz_iload (pc := 123) dX9_mix_123 rfl ?_
  exact gz_irt (pc := 125) dX9_mix_125 rfl rfl hf
def fX9_mix_93  (a0 : Nat) (x1 : Int32) (x2 : Int32) (x4 : Int32) (b0 : Nat) (w1 : Int32) (h : gz_H) : Option (Int32 × gz_H) :=
    gz_ck (gz_sh h b0 9 29) <|
    gz_b2 (fX9_toldOf b0 w1 (4 : Int32) h) fun y_2 h_1 =>
    if y_2 = (-9 : Int32) then (
     some (y_2, h_1)
    ) else (
     if x4 = 0 then (
      fX9_mix_117 y_2 a0 x1 h_1
     ) else (
      fX9_mix_117 y_2 a0 x2 h_1
     )
    )
set_option maxRecDepth 100000 in
set_option maxHeartbeats 1000000 in
theorem sX9_mix_93 {G : gz_G} {d l0 s0 : Nat} {Q : Int32 → gz_H → Prop} (a0 : Nat) (x1 : Int32) (x2 : Int32) (x4 : Int32) (b0 : Nat) (w1 : Int32) (h : gz_H) (hf : gz_g (fX9_mix_93  a0 x1 x2 x4 b0 w1 h) Q) : gz_Ok G mX9_mix (d + 3, l0, s0, 0, 0) 93 [.ref a0, .int x1, .int x2, .retAddr 0, .int x4, .retAddr 0] [.int w1, .ref b0] h (gz_qi Q) := by
  unfold fX9_mix_93 at hf
  refine gz_iconst (v := (4 : Int32)) (pc := 93) dX9_mix_93 rfl ?_
  refine gz_gk hf (fun c_3 hf => ?_)
  refine gz_cVI (av := [.int w1, .int (4 : Int32)]) (st := []) (pc := 94) dX9_mix_94 kl_RX9_201 rfl (gz_shs c_3) rfl rfl (Nat.le_of_ble_eq_true rfl) (by show d + 0 + 2 + 1 ≤ d + 3; omega) (sX9_toldOf (d := d + 0) (gz_gc hf)) (fun y_2 h_1 hf => ?_)
  refine gz_istore (lv := [.ref a0, .int x1, .int x2, .retAddr 0, .int x4, .int y_2]) (pc := 97) dX9_mix_97 (by decide) rfl ?_
  refine gz_iload (pc := 99) dX9_mix_99 rfl ?_
  refine gz_bipush (v := (-9 : Int32)) (pc := 101) dX9_mix_101 rfl ?_
  refine gz_icmp_eq (tgt := 123) (pc := 103) dX9_mix_103 rfl (fun c_4 => ?_) (fun c_4 => ?_)
  · have hf := gz_gT hf c_4
    refine gz_iload (pc := 123) dX9_mix_123 rfl ?_
    exact gz_irt (pc := 125) dX9_mix_125 rfl rfl hf
  · have hf := gz_gF hf c_4
    refine gz_aload_n (pc := 106) dX9_mix_106 rfl rfl ?_
    refine gz_iload (pc := 107) dX9_mix_107 rfl ?_
    refine gz_if_eq (tgt := 116) (pc := 109) dX9_mix_109 rfl (fun c_5 => ?_) (fun c_5 => ?_)
    · have hf := gz_gT hf c_5
      refine gz_iload_n (pc := 116) dX9_mix_116 rfl rfl ?_
      refine gz_fg (lv := [.retAddr 0, .retAddr 0, .retAddr 0, .retAddr 0, .retAddr 0, .int y_2]) ⟨Or.inl rfl, ⟨Or.inl rfl, ⟨Or.inl rfl, ⟨Or.inl rfl, ⟨Or.inl rfl, ⟨Or.inr rfl, trivial⟩⟩⟩⟩⟩⟩ ?_
      exact sX9_mix_117 y_2 a0 x1 h_1 hf
    · have hf := gz_gF hf c_5
      refine gz_iload_n (pc := 112) dX9_mix_112 rfl rfl ?_
      refine gz_goto (tgt := 117) (pc := 113) dX9_mix_113 rfl ?_
      refine gz_fg (lv := [.retAddr 0, .retAddr 0, .retAddr 0, .retAddr 0, .retAddr 0, .int y_2]) ⟨Or.inl rfl, ⟨Or.inl rfl, ⟨Or.inl rfl, ⟨Or.inl rfl, ⟨Or.inl rfl, ⟨Or.inr rfl, trivial⟩⟩⟩⟩⟩⟩ ?_
      exact sX9_mix_117 y_2 a0 x2 h_1 hf
def fX9_mix_80  (a0 : Nat) (x1 : Int32) (x2 : Int32) (w0 : Int32) (h : gz_H) : Option (Int32 × gz_H) :=
    if w0 = 0 then (
     fX9_mix_93 a0 x1 x2 w0 a0 x2 h
    ) else (
     fX9_mix_93 a0 x1 x2 w0 a0 x1 h
    )
set_option maxRecDepth 100000 in
set_option maxHeartbeats 1000000 in
theorem sX9_mix_80 {G : gz_G} {d l0 s0 : Nat} {Q : Int32 → gz_H → Prop} (a0 : Nat) (x1 : Int32) (x2 : Int32) (w0 : Int32) (h : gz_H) (hf : gz_g (fX9_mix_80  a0 x1 x2 w0 h) Q) : gz_Ok G mX9_mix (d + 3, l0, s0, 0, 0) 80 [.ref a0, .int x1, .int x2, .retAddr 0, .retAddr 0, .retAddr 0] [.int w0] h (gz_qi Q) := by
  unfold fX9_mix_80 at hf
  refine gz_istore (lv := [.ref a0, .int x1, .int x2, .retAddr 0, .int w0, .retAddr 0]) (pc := 80) dX9_mix_80 (by decide) rfl ?_
  refine gz_aload_n (pc := 82) dX9_mix_82 rfl rfl ?_
  refine gz_iload (pc := 83) dX9_mix_83 rfl ?_
  refine gz_if_eq (tgt := 92) (pc := 85) dX9_mix_85 rfl (fun c_1 => ?_) (fun c_1 => ?_)
  · have hf := gz_gT hf c_1
    refine gz_iload_n (pc := 92) dX9_mix_92 rfl rfl ?_
    exact sX9_mix_93 a0 x1 x2 w0 a0 x2 h hf
  · have hf := gz_gF hf c_1
    refine gz_iload_n (pc := 88) dX9_mix_88 rfl rfl ?_
    refine gz_goto (tgt := 93) (pc := 89) dX9_mix_89 rfl ?_
    exact sX9_mix_93 a0 x1 x2 w0 a0 x1 h hf
def fX9_mix_75  (a0 : Nat) (x1 : Int32) (x2 : Int32) (h : gz_H) : Option (Int32 × gz_H) :=
    fX9_mix_80 a0 x1 x2 (1 : Int32) h
set_option maxRecDepth 100000 in
set_option maxHeartbeats 1000000 in
theorem sX9_mix_75 {G : gz_G} {d l0 s0 : Nat} {Q : Int32 → gz_H → Prop} (a0 : Nat) (x1 : Int32) (x2 : Int32) (h : gz_H) (hf : gz_g (fX9_mix_75  a0 x1 x2 h) Q) : gz_Ok G mX9_mix (d + 3, l0, s0, 0, 0) 75 [.ref a0, .int x1, .int x2, .retAddr 0, .retAddr 0, .retAddr 0] [] h (gz_qi Q) := by
  unfold fX9_mix_75 at hf
  refine gz_iconst (v := (1 : Int32)) (pc := 75) dX9_mix_75 rfl ?_
  refine gz_goto (tgt := 80) (pc := 76) dX9_mix_76 rfl ?_
  exact sX9_mix_80 a0 x1 x2 (1 : Int32) h hf
def fX9_mix_79  (a0 : Nat) (x1 : Int32) (x2 : Int32) (h : gz_H) : Option (Int32 × gz_H) :=
    fX9_mix_80 a0 x1 x2 (0 : Int32) h
set_option maxRecDepth 100000 in
set_option maxHeartbeats 1000000 in
theorem sX9_mix_79 {G : gz_G} {d l0 s0 : Nat} {Q : Int32 → gz_H → Prop} (a0 : Nat) (x1 : Int32) (x2 : Int32) (h : gz_H) (hf : gz_g (fX9_mix_79  a0 x1 x2 h) Q) : gz_Ok G mX9_mix (d + 3, l0, s0, 0, 0) 79 [.ref a0, .int x1, .int x2, .retAddr 0, .retAddr 0, .retAddr 0] [] h (gz_qi Q) := by
  unfold fX9_mix_79 at hf
  refine gz_iconst (v := (0 : Int32)) (pc := 79) dX9_mix_79 rfl ?_
  exact sX9_mix_80 a0 x1 x2 (0 : Int32) h hf
def fX9_mix_0  (a0 : Nat) (x1 : Int32) (x2 : Int32) (h : gz_H) : Option (Int32 × gz_H) :=
    gz_ck (gz_sh h a0 9 29) <|
    gz_b2 (fX9_isGoose a0 x1 h) fun y_2 h_1 =>
    if y_2 = 0 then (
     some ((-1 : Int32), h_1)
    ) else (
     gz_ck (gz_sh h_1 a0 9 29) <|
     gz_b2 (fX9_isGoose a0 x2 h_1) fun y_6 h_5 =>
     if y_6 = 0 then (
      some ((-1 : Int32), h_5)
     ) else (
      if x1 = x2 then (
       some ((-1 : Int32), h_5)
      ) else (
       gz_ck (gz_sh h_5 a0 9 29) <|
       gz_b2 (fX9_no a0 x1 x2 h_5) fun y_11 h_10 =>
       if y_11 = 0 then (
        gz_ck (gz_sh h_10 a0 9 29) <|
        gz_b2 (fX9_keepPast a0 h_10) fun _ h_14 =>
        gz_ck (gz_sh h_14 a0 9 29) <|
        gz_br (h_14.2.2.2 a0 6) fun r_18 =>
        gz_ck (gz_inb h_14 r_18 10 x1) <|
        gz_ck (gz_inb h_14 r_18 10 x2) <|
        if (h_14.2.1 r_18 x2.toNatClampNeg) < (h_14.2.1 r_18 x1.toNatClampNeg) then (
         fX9_mix_75 a0 x1 x2 h_14
        ) else (
         if (h_14.2.1 r_18 x1.toNatClampNeg) = (h_14.2.1 r_18 x2.toNatClampNeg) then (
          if x2 ≤ x1 then (
           fX9_mix_79 a0 x1 x2 h_14
          ) else (
           fX9_mix_75 a0 x1 x2 h_14
          )
         ) else (
          fX9_mix_79 a0 x1 x2 h_14
         )
        )
       ) else (
        some (y_11, h_10)
       )
      )
     )
    )
set_option maxRecDepth 100000 in
set_option maxHeartbeats 1000000 in
theorem sX9_mix_0 {G : gz_G} {d l0 s0 : Nat} {Q : Int32 → gz_H → Prop} (a0 : Nat) (x1 : Int32) (x2 : Int32) (h : gz_H) (hf : gz_g (fX9_mix_0  a0 x1 x2 h) Q) : gz_Ok G mX9_mix (d + 3, l0, s0, 0, 0) 0 [.ref a0, .int x1, .int x2, .retAddr 0, .retAddr 0, .retAddr 0] [] h (gz_qi Q) := by
  unfold fX9_mix_0 at hf
  refine gz_aload_n (pc := 0) dX9_mix_0 rfl rfl ?_
  refine gz_iload_n (pc := 1) dX9_mix_1 rfl rfl ?_
  refine gz_gk hf (fun c_3 hf => ?_)
  refine gz_cVI (av := [.int x1]) (st := []) (pc := 2) dX9_mix_2 kl_RX9_196 rfl (gz_shs c_3) rfl rfl (Nat.le_of_ble_eq_true rfl) (by show d + 1 + 1 + 1 ≤ d + 3; omega) (sX9_isGoose (d := d + 1) (gz_gc hf)) (fun y_2 h_1 hf => ?_)
  refine gz_if_eq (tgt := 21) (pc := 5) dX9_mix_5 rfl (fun c_4 => ?_) (fun c_4 => ?_)
  · have hf := gz_gT hf c_4
    refine gz_iconst (v := (-1 : Int32)) (pc := 21) dX9_mix_21 rfl ?_
    exact gz_irt (pc := 22) dX9_mix_22 rfl rfl hf
  · have hf := gz_gF hf c_4
    refine gz_aload_n (pc := 8) dX9_mix_8 rfl rfl ?_
    refine gz_iload_n (pc := 9) dX9_mix_9 rfl rfl ?_
    refine gz_gk hf (fun c_7 hf => ?_)
    refine gz_cVI (av := [.int x2]) (st := []) (pc := 10) dX9_mix_10 kl_RX9_196 rfl (gz_shs c_7) rfl rfl (Nat.le_of_ble_eq_true rfl) (by show d + 1 + 1 + 1 ≤ d + 3; omega) (sX9_isGoose (d := d + 1) (gz_gc hf)) (fun y_6 h_5 hf => ?_)
    refine gz_if_eq (tgt := 21) (pc := 13) dX9_mix_13 rfl (fun c_8 => ?_) (fun c_8 => ?_)
    · have hf := gz_gT hf c_8
      refine gz_iconst (v := (-1 : Int32)) (pc := 21) dX9_mix_21 rfl ?_
      exact gz_irt (pc := 22) dX9_mix_22 rfl rfl hf
    · have hf := gz_gF hf c_8
      refine gz_iload_n (pc := 16) dX9_mix_16 rfl rfl ?_
      refine gz_iload_n (pc := 17) dX9_mix_17 rfl rfl ?_
      refine gz_icmp_ne (tgt := 23) (pc := 18) dX9_mix_18 rfl (fun c_9 => ?_) (fun c_9 => ?_)
      · have hf := gz_gF hf c_9
        refine gz_aload_n (pc := 23) dX9_mix_23 rfl rfl ?_
        refine gz_iload_n (pc := 24) dX9_mix_24 rfl rfl ?_
        refine gz_iload_n (pc := 25) dX9_mix_25 rfl rfl ?_
        refine gz_gk hf (fun c_12 hf => ?_)
        refine gz_cVI (av := [.int x1, .int x2]) (st := []) (pc := 26) dX9_mix_26 kl_RX9_225 rfl (gz_shs c_12) rfl rfl (Nat.le_of_ble_eq_true rfl) (by show d + 0 + 2 + 1 ≤ d + 3; omega) (sX9_no (d := d + 0) (gz_gc hf)) (fun y_11 h_10 hf => ?_)
        refine gz_istore_n (lv := [.ref a0, .int x1, .int x2, .int y_11, .retAddr 0, .retAddr 0]) (pc := 29) dX9_mix_29 rfl (by decide) rfl ?_
        refine gz_iload_n (pc := 30) dX9_mix_30 rfl rfl ?_
        refine gz_if_eq (tgt := 36) (pc := 31) dX9_mix_31 rfl (fun c_13 => ?_) (fun c_13 => ?_)
        · have hf := gz_gT hf c_13
          refine gz_aload_n (pc := 36) dX9_mix_36 rfl rfl ?_
          refine gz_gk hf (fun c_16 hf => ?_)
          refine gz_cVV (av := []) (st := []) (pc := 37) dX9_mix_37 kl_RX9_228 rfl (gz_shs c_16) rfl rfl (Nat.le_of_ble_eq_true rfl) (by show d + 2 + 0 + 1 ≤ d + 3; omega) (sX9_keepPast (d := d + 2) (gz_gc hf)) (fun _ h_14 hf => ?_)
          refine gz_aload_n (pc := 40) dX9_mix_40 rfl rfl ?_
          refine gz_gk hf (fun c_17 hf => ?_)
          refine gz_gb hf (fun r_18 er_18 hf => ?_)
          refine gz_getR (pc := 41) dX9_mix_41 fl_RX9_22 rfl (gz_shs c_17) er_18 ?_
          refine gz_iload_n (pc := 44) dX9_mix_44 rfl rfl ?_
          refine gz_gk hf (fun c_19 hf => ?_)
          refine gz_iald (pc := 45) dX9_mix_45 c_19 ?_
          refine gz_aload_n (pc := 46) dX9_mix_46 rfl rfl ?_
          refine gz_getR (pc := 47) dX9_mix_47 fl_RX9_22 rfl (gz_shs c_17) er_18 ?_
          refine gz_iload_n (pc := 50) dX9_mix_50 rfl rfl ?_
          refine gz_gk hf (fun c_20 hf => ?_)
          refine gz_iald (pc := 51) dX9_mix_51 c_20 ?_
          refine gz_icmp_gt (tgt := 75) (pc := 52) dX9_mix_52 rfl (fun c_21 => ?_) (fun c_21 => ?_)
          · have hf := gz_gT hf c_21
            refine gz_fg (lv := [.ref a0, .int x1, .int x2, .retAddr 0, .retAddr 0, .retAddr 0]) ⟨Or.inr rfl, ⟨Or.inr rfl, ⟨Or.inr rfl, ⟨Or.inl rfl, ⟨Or.inl rfl, ⟨Or.inl rfl, trivial⟩⟩⟩⟩⟩⟩ ?_
            exact sX9_mix_75 a0 x1 x2 h_14 hf
          · have hf := gz_gF hf c_21
            refine gz_aload_n (pc := 55) dX9_mix_55 rfl rfl ?_
            refine gz_getR (pc := 56) dX9_mix_56 fl_RX9_22 rfl (gz_shs c_17) er_18 ?_
            refine gz_iload_n (pc := 59) dX9_mix_59 rfl rfl ?_
            refine gz_iald (pc := 60) dX9_mix_60 c_19 ?_
            refine gz_aload_n (pc := 61) dX9_mix_61 rfl rfl ?_
            refine gz_getR (pc := 62) dX9_mix_62 fl_RX9_22 rfl (gz_shs c_17) er_18 ?_
            refine gz_iload_n (pc := 65) dX9_mix_65 rfl rfl ?_
            refine gz_iald (pc := 66) dX9_mix_66 c_20 ?_
            refine gz_icmp_ne (tgt := 79) (pc := 67) dX9_mix_67 rfl (fun c_22 => ?_) (fun c_22 => ?_)
            · have hf := gz_gF hf c_22
              refine gz_fg (lv := [.ref a0, .int x1, .int x2, .retAddr 0, .retAddr 0, .retAddr 0]) ⟨Or.inr rfl, ⟨Or.inr rfl, ⟨Or.inr rfl, ⟨Or.inl rfl, ⟨Or.inl rfl, ⟨Or.inl rfl, trivial⟩⟩⟩⟩⟩⟩ ?_
              exact sX9_mix_79 a0 x1 x2 h_14 hf
            · have hf := gz_gT hf c_22
              refine gz_iload_n (pc := 70) dX9_mix_70 rfl rfl ?_
              refine gz_iload_n (pc := 71) dX9_mix_71 rfl rfl ?_
              refine gz_icmp_ge (tgt := 79) (pc := 72) dX9_mix_72 rfl (fun c_23 => ?_) (fun c_23 => ?_)
              · have hf := gz_gT hf c_23
                refine gz_fg (lv := [.ref a0, .int x1, .int x2, .retAddr 0, .retAddr 0, .retAddr 0]) ⟨Or.inr rfl, ⟨Or.inr rfl, ⟨Or.inr rfl, ⟨Or.inl rfl, ⟨Or.inl rfl, ⟨Or.inl rfl, trivial⟩⟩⟩⟩⟩⟩ ?_
                exact sX9_mix_79 a0 x1 x2 h_14 hf
              · have hf := gz_gF hf c_23
                refine gz_fg (lv := [.ref a0, .int x1, .int x2, .retAddr 0, .retAddr 0, .retAddr 0]) ⟨Or.inr rfl, ⟨Or.inr rfl, ⟨Or.inr rfl, ⟨Or.inl rfl, ⟨Or.inl rfl, ⟨Or.inl rfl, trivial⟩⟩⟩⟩⟩⟩ ?_
                exact sX9_mix_75 a0 x1 x2 h_14 hf
        · have hf := gz_gF hf c_13
          refine gz_iload_n (pc := 34) dX9_mix_34 rfl rfl ?_
          exact gz_irt (pc := 35) dX9_mix_35 rfl rfl hf
      · have hf := gz_gT hf c_9
        refine gz_iconst (v := (-1 : Int32)) (pc := 21) dX9_mix_21 rfl ?_
        exact gz_irt (pc := 22) dX9_mix_22 rfl rfl hf
def fX9_mix (a0 : Nat) (x1 : Int32) (x2 : Int32) (h : gz_H) : Option (Int32 × gz_H) := fX9_mix_0 a0 x1 x2 h
theorem sX9_mix {G : gz_G} {d : Nat} {a0 : Nat} {x1 : Int32} {x2 : Int32} {h : gz_H} {Q : Int32 → gz_H → Prop} (hf : gz_g (fX9_mix a0 x1 x2 h) Q) : gz_Cl G mX9_mix (d + 3) 0 0 [.ref a0, .int x1, .int x2] h (gz_qi Q) := gz_cl_of (lo := [.ref a0, .int x1, .int x2, .retAddr 0, .retAddr 0, .retAddr 0]) (by decide) rfl rfl (Nat.le_of_ble_eq_true rfl) (sX9_mix_0 a0 x1 x2 h hf)
theorem dX9_eat_0 : decode cX9_eat 0 = .ok (.aload_n 0, 1) := by decide +kernel
theorem dX9_eat_1 : decode cX9_eat 1 = .ok (.iload_n 1, 1) := by decide +kernel
theorem dX9_eat_2 : decode cX9_eat 2 = .ok (.invokevirtual 196, 3) := by decide +kernel
theorem dX9_eat_5 : decode cX9_eat 5 = .ok (.ifCond .eq 22, 3) := by decide +kernel
theorem dX9_eat_8 : decode cX9_eat 8 = .ok (.iload_n 2, 1) := by decide +kernel
theorem dX9_eat_9 : decode cX9_eat 9 = .ok (.bipush (-9), 2) := by decide +kernel
theorem dX9_eat_11 : decode cX9_eat 11 = .ok (.if_icmp .eq 18, 3) := by decide +kernel
theorem dX9_eat_14 : decode cX9_eat 14 = .ok (.aload_n 0, 1) := by decide +kernel
theorem dX9_eat_15 : decode cX9_eat 15 = .ok (.iload_n 2, 1) := by decide +kernel
theorem dX9_eat_16 : decode cX9_eat 16 = .ok (.invokevirtual 196, 3) := by decide +kernel
theorem dX9_eat_19 : decode cX9_eat 19 = .ok (.ifCond .eq 8, 3) := by decide +kernel
theorem dX9_eat_22 : decode cX9_eat 22 = .ok (.iload_n 2, 1) := by decide +kernel
theorem dX9_eat_23 : decode cX9_eat 23 = .ok (.iload_n 1, 1) := by decide +kernel
theorem dX9_eat_24 : decode cX9_eat 24 = .ok (.if_icmp .ne 5, 3) := by decide +kernel
theorem dX9_eat_27 : decode cX9_eat 27 = .ok (.iconst (-1), 1) := by decide +kernel
theorem dX9_eat_28 : decode cX9_eat 28 = .ok (.ireturn, 1) := by decide +kernel
theorem dX9_eat_29 : decode cX9_eat 29 = .ok (.aload_n 0, 1) := by decide +kernel
theorem dX9_eat_30 : decode cX9_eat 30 = .ok (.iload_n 1, 1) := by decide +kernel
theorem dX9_eat_31 : decode cX9_eat 31 = .ok (.iload_n 2, 1) := by decide +kernel
theorem dX9_eat_32 : decode cX9_eat 32 = .ok (.bipush (-9), 2) := by decide +kernel
theorem dX9_eat_34 : decode cX9_eat 34 = .ok (.if_icmp .ne 7, 3) := by decide +kernel
theorem dX9_eat_37 : decode cX9_eat 37 = .ok (.iload_n 1, 1) := by decide +kernel
theorem dX9_eat_38 : decode cX9_eat 38 = .ok (.goto 4, 3) := by decide +kernel
theorem dX9_eat_41 : decode cX9_eat 41 = .ok (.iload_n 2, 1) := by decide +kernel
theorem dX9_eat_42 : decode cX9_eat 42 = .ok (.invokevirtual 225, 3) := by decide +kernel
theorem dX9_eat_45 : decode cX9_eat 45 = .ok (.istore_n 3, 1) := by decide +kernel
theorem dX9_eat_46 : decode cX9_eat 46 = .ok (.iload_n 3, 1) := by decide +kernel
theorem dX9_eat_47 : decode cX9_eat 47 = .ok (.ifCond .eq 5, 3) := by decide +kernel
theorem dX9_eat_50 : decode cX9_eat 50 = .ok (.iload_n 3, 1) := by decide +kernel
theorem dX9_eat_51 : decode cX9_eat 51 = .ok (.ireturn, 1) := by decide +kernel
theorem dX9_eat_52 : decode cX9_eat 52 = .ok (.aload_n 0, 1) := by decide +kernel
theorem dX9_eat_53 : decode cX9_eat 53 = .ok (.invokevirtual 228, 3) := by decide +kernel
theorem dX9_eat_56 : decode cX9_eat 56 = .ok (.aload_n 0, 1) := by decide +kernel
theorem dX9_eat_57 : decode cX9_eat 57 = .ok (.iload_n 1, 1) := by decide +kernel
theorem dX9_eat_58 : decode cX9_eat 58 = .ok (.invokevirtual 173, 3) := by decide +kernel
theorem dX9_eat_61 : decode cX9_eat 61 = .ok (.iconst 0, 1) := by decide +kernel
theorem dX9_eat_62 : decode cX9_eat 62 = .ok (.istore 4, 2) := by decide +kernel
theorem dX9_eat_64 : decode cX9_eat 64 = .ok (.iload 4, 2) := by decide +kernel
theorem dX9_eat_66 : decode cX9_eat 66 = .ok (.aload_n 0, 1) := by decide +kernel
theorem dX9_eat_67 : decode cX9_eat 67 = .ok (.getfield 164, 3) := by decide +kernel
theorem dX9_eat_70 : decode cX9_eat 70 = .ok (.if_icmp .ge 28, 3) := by decide +kernel
theorem dX9_eat_73 : decode cX9_eat 73 = .ok (.iload_n 2, 1) := by decide +kernel
theorem dX9_eat_74 : decode cX9_eat 74 = .ok (.bipush (-9), 2) := by decide +kernel
theorem dX9_eat_76 : decode cX9_eat 76 = .ok (.if_icmp .eq 22, 3) := by decide +kernel
theorem dX9_eat_79 : decode cX9_eat 79 = .ok (.aload_n 0, 1) := by decide +kernel
theorem dX9_eat_80 : decode cX9_eat 80 = .ok (.iload_n 2, 1) := by decide +kernel
theorem dX9_eat_81 : decode cX9_eat 81 = .ok (.aload_n 0, 1) := by decide +kernel
theorem dX9_eat_82 : decode cX9_eat 82 = .ok (.getfield 56, 3) := by decide +kernel
theorem dX9_eat_85 : decode cX9_eat 85 = .ok (.iload 4, 2) := by decide +kernel
theorem dX9_eat_87 : decode cX9_eat 87 = .ok (.iaload, 1) := by decide +kernel
theorem dX9_eat_88 : decode cX9_eat 88 = .ok (.invokevirtual 231, 3) := by decide +kernel
theorem dX9_eat_91 : decode cX9_eat 91 = .ok (.pop, 1) := by decide +kernel
theorem dX9_eat_92 : decode cX9_eat 92 = .ok (.iinc 4 1, 3) := by decide +kernel
theorem dX9_eat_95 : decode cX9_eat 95 = .ok (.goto (-31), 3) := by decide +kernel
theorem dX9_eat_98 : decode cX9_eat 98 = .ok (.aload_n 0, 1) := by decide +kernel
theorem dX9_eat_99 : decode cX9_eat 99 = .ok (.getfield 7, 3) := by decide +kernel
theorem dX9_eat_102 : decode cX9_eat 102 = .ok (.iconst 2, 1) := by decide +kernel
theorem dX9_eat_103 : decode cX9_eat 103 = .ok (.iload_n 1, 1) := by decide +kernel
theorem dX9_eat_104 : decode cX9_eat 104 = .ok (.iadd, 1) := by decide +kernel
theorem dX9_eat_105 : decode cX9_eat 105 = .ok (.iconst 0, 1) := by decide +kernel
theorem dX9_eat_106 : decode cX9_eat 106 = .ok (.iastore, 1) := by decide +kernel
theorem dX9_eat_107 : decode cX9_eat 107 = .ok (.aload_n 0, 1) := by decide +kernel
theorem dX9_eat_108 : decode cX9_eat 108 = .ok (.getfield 7, 3) := by decide +kernel
theorem dX9_eat_111 : decode cX9_eat 111 = .ok (.iconst 1, 1) := by decide +kernel
theorem dX9_eat_112 : decode cX9_eat 112 = .ok (.dup2, 1) := by decide +kernel
theorem dX9_eat_113 : decode cX9_eat 113 = .ok (.iaload, 1) := by decide +kernel
theorem dX9_eat_114 : decode cX9_eat 114 = .ok (.iconst 1, 1) := by decide +kernel
theorem dX9_eat_115 : decode cX9_eat 115 = .ok (.iload_n 1, 1) := by decide +kernel
theorem dX9_eat_116 : decode cX9_eat 116 = .ok (.ishl, 1) := by decide +kernel
theorem dX9_eat_117 : decode cX9_eat 117 = .ok (.ior, 1) := by decide +kernel
theorem dX9_eat_118 : decode cX9_eat 118 = .ok (.iastore, 1) := by decide +kernel
theorem dX9_eat_119 : decode cX9_eat 119 = .ok (.aload_n 0, 1) := by decide +kernel
theorem dX9_eat_120 : decode cX9_eat 120 = .ok (.invokevirtual 237, 3) := by decide +kernel
theorem dX9_eat_123 : decode cX9_eat 123 = .ok (.ireturn, 1) := by decide +kernel
def fX9_eat_98  (a0 : Nat) (x1 : Int32) (h : gz_H) : Option (Int32 × gz_H) :=
    gz_ck (gz_sh h a0 9 29) <|
    gz_br (h.2.2.2 a0 0) fun r_2 =>
    gz_ck (gz_inb h r_2 10 ((2 : Int32) + x1)) <|
    gz_lt (uI h r_2 ((2 : Int32) + x1).toNatClampNeg (0 : Int32)) fun h_4 =>
    gz_ck (gz_sh h_4 a0 9 29) <|
    gz_br (h_4.2.2.2 a0 0) fun r_6 =>
    gz_ck (gz_inb h_4 r_6 10 (1 : Int32)) <|
    gz_lt (uI h_4 r_6 (1 : Int32).toNatClampNeg ((h_4.2.1 r_6 (1 : Int32).toNatClampNeg) ||| ((1 : Int32) <<< (x1 &&& 31)))) fun h_8 =>
    gz_ck (gz_sh h_8 a0 9 29) <|
    gz_b2 (fX9_lostMany a0 h_8) fun y_10 h_9 =>
    some (y_10, h_9)
set_option maxRecDepth 100000 in
set_option maxHeartbeats 1000000 in
theorem sX9_eat_98 {G : gz_G} {d l0 s0 : Nat} {Q : Int32 → gz_H → Prop} (a0 : Nat) (x1 : Int32) (h : gz_H) (hf : gz_g (fX9_eat_98  a0 x1 h) Q) : gz_Ok G mX9_eat (d + 4, l0, s0, 0, 0) 98 [.ref a0, .int x1, .retAddr 0, .retAddr 0, .retAddr 0] [] h (gz_qi Q) := by
  unfold fX9_eat_98 at hf
  refine gz_aload_n (pc := 98) dX9_eat_98 rfl rfl ?_
  refine gz_gk hf (fun c_1 hf => ?_)
  refine gz_gb hf (fun r_2 er_2 hf => ?_)
  refine gz_getR (pc := 99) dX9_eat_99 fl_RX9_7 rfl (gz_shs c_1) er_2 ?_
  refine gz_iconst (v := (2 : Int32)) (pc := 102) dX9_eat_102 rfl ?_
  refine gz_iload_n (pc := 103) dX9_eat_103 rfl rfl ?_
  refine gz_iadd (pc := 104) dX9_eat_104 ?_
  refine gz_iconst (v := (0 : Int32)) (pc := 105) dX9_eat_105 rfl ?_
  refine gz_gk hf (fun c_3 hf => ?_)
  refine gz_iast (pc := 106) dX9_eat_106 c_3 ?_
  refine gz_nmH (fun h_4 eh_4 => ?_)
  have hf := gz_gl eh_4 hf
  refine gz_aload_n (pc := 107) dX9_eat_107 rfl rfl ?_
  refine gz_gk hf (fun c_5 hf => ?_)
  refine gz_gb hf (fun r_6 er_6 hf => ?_)
  refine gz_getR (pc := 108) dX9_eat_108 fl_RX9_7 rfl (gz_shs c_5) er_6 ?_
  refine gz_iconst (v := (1 : Int32)) (pc := 111) dX9_eat_111 rfl ?_
  refine gz_dup2 (pc := 112) dX9_eat_112 rfl rfl ?_
  refine gz_gk hf (fun c_7 hf => ?_)
  refine gz_iald (pc := 113) dX9_eat_113 c_7 ?_
  refine gz_iconst (v := (1 : Int32)) (pc := 114) dX9_eat_114 rfl ?_
  refine gz_iload_n (pc := 115) dX9_eat_115 rfl rfl ?_
  refine gz_ishl (pc := 116) dX9_eat_116 ?_
  refine gz_ior (pc := 117) dX9_eat_117 ?_
  refine gz_iast (pc := 118) dX9_eat_118 c_7 ?_
  refine gz_nmH (fun h_8 eh_8 => ?_)
  have hf := gz_gl eh_8 hf
  refine gz_aload_n (pc := 119) dX9_eat_119 rfl rfl ?_
  refine gz_gk hf (fun c_11 hf => ?_)
  refine gz_cVI (av := []) (st := []) (pc := 120) dX9_eat_120 kl_RX9_237 rfl (gz_shs c_11) rfl rfl (Nat.le_of_ble_eq_true rfl) (by show d + 0 + 3 + 1 ≤ d + 4; omega) (sX9_lostMany (d := d + 0) (gz_gc hf)) (fun y_10 h_9 hf => ?_)
  exact gz_irt (pc := 123) dX9_eat_123 rfl rfl hf
def fX9_eat_64  : Nat → Nat → Int32 → Int32 → Int32 → gz_H → Option (Int32 × gz_H)
  | 0, _, _, _, _, _ => none
  | n + 1, a0, x1, x2, x4, h =>
    gz_ck (gz_sh h a0 9 29) <|
    if (h.2.1 a0 25) ≤ x4 then (
     fX9_eat_98 a0 x1 h
    ) else (
     if x2 = (-9 : Int32) then (
      fX9_eat_98 a0 x1 h
     ) else (
      gz_br (h.2.2.2 a0 26) fun r_4 =>
      gz_ck (gz_inb h r_4 10 x4) <|
      gz_b2 (fX9_doGive a0 x2 (h.2.1 r_4 x4.toNatClampNeg) h) fun y_7 h_6 =>
      fX9_eat_64 n a0 x1 x2 (x4 + 1) h_6
     )
    )
set_option maxRecDepth 100000 in
set_option maxHeartbeats 1000000 in
theorem sX9_eat_64 {G : gz_G} {d l0 s0 : Nat} {Q : Int32 → gz_H → Prop} : ∀ (n : Nat) (a0 : Nat) (x1 : Int32) (x2 : Int32) (x4 : Int32) (h : gz_H), gz_g (fX9_eat_64  n a0 x1 x2 x4 h) Q → gz_Ok G mX9_eat (d + 4, l0, s0, 0, 0) 64 [.ref a0, .int x1, .int x2, .retAddr 0, .int x4] [] h (gz_qi Q) := by
  intro n
  induction n with
  | zero => intro a0 x1 x2 x4 h hf; exact False.elim hf
  | succ n ih =>
    intro a0 x1 x2 x4 h hf
    rw [fX9_eat_64] at hf
    refine gz_iload (pc := 64) dX9_eat_64 rfl ?_
    refine gz_aload_n (pc := 66) dX9_eat_66 rfl rfl ?_
    refine gz_gk hf (fun c_1 hf => ?_)
    refine gz_getI (pc := 67) dX9_eat_67 fl_RX9_164 rfl (gz_shs c_1) ?_
    refine gz_icmp_ge (tgt := 98) (pc := 70) dX9_eat_70 rfl (fun c_2 => ?_) (fun c_2 => ?_)
    · have hf := gz_gT hf c_2
      refine gz_fg (lv := [.ref a0, .int x1, .retAddr 0, .retAddr 0, .retAddr 0]) ⟨Or.inr rfl, ⟨Or.inr rfl, ⟨Or.inl rfl, ⟨Or.inl rfl, ⟨Or.inl rfl, trivial⟩⟩⟩⟩⟩ ?_
      exact sX9_eat_98 a0 x1 h hf
    · have hf := gz_gF hf c_2
      refine gz_iload_n (pc := 73) dX9_eat_73 rfl rfl ?_
      refine gz_bipush (v := (-9 : Int32)) (pc := 74) dX9_eat_74 rfl ?_
      refine gz_icmp_eq (tgt := 98) (pc := 76) dX9_eat_76 rfl (fun c_3 => ?_) (fun c_3 => ?_)
      · have hf := gz_gT hf c_3
        refine gz_fg (lv := [.ref a0, .int x1, .retAddr 0, .retAddr 0, .retAddr 0]) ⟨Or.inr rfl, ⟨Or.inr rfl, ⟨Or.inl rfl, ⟨Or.inl rfl, ⟨Or.inl rfl, trivial⟩⟩⟩⟩⟩ ?_
        exact sX9_eat_98 a0 x1 h hf
      · have hf := gz_gF hf c_3
        refine gz_aload_n (pc := 79) dX9_eat_79 rfl rfl ?_
        refine gz_iload_n (pc := 80) dX9_eat_80 rfl rfl ?_
        refine gz_aload_n (pc := 81) dX9_eat_81 rfl rfl ?_
        refine gz_gb hf (fun r_4 er_4 hf => ?_)
        refine gz_getR (pc := 82) dX9_eat_82 fl_RX9_56 rfl (gz_shs c_1) er_4 ?_
        refine gz_iload (pc := 85) dX9_eat_85 rfl ?_
        refine gz_gk hf (fun c_5 hf => ?_)
        refine gz_iald (pc := 87) dX9_eat_87 c_5 ?_
        refine gz_cVI (av := [.int x2, .int (h.2.1 r_4 x4.toNatClampNeg)]) (st := []) (pc := 88) dX9_eat_88 kl_RX9_231 rfl (gz_shs c_1) rfl rfl (Nat.le_of_ble_eq_true rfl) (by show d + 1 + 2 + 1 ≤ d + 4; omega) (sX9_doGive (d := d + 1) (gz_gc hf)) (fun y_7 h_6 hf => ?_)
        refine gz_pop (pc := 91) dX9_eat_91 rfl ?_
        refine gz_iinc (v := x4 + 1) (lv := [.ref a0, .int x1, .int x2, .retAddr 0, .int (x4 + 1)]) (pc := 92) dX9_eat_92 rfl rfl (by decide) rfl ?_
        refine gz_goto (tgt := 64) (pc := 95) dX9_eat_95 rfl ?_
        exact ih a0 x1 x2 (x4 + 1) h_6 hf
def fX9_eat_42  (a0 : Nat) (x1 : Int32) (x2 : Int32) (b0 : Nat) (w1 : Int32) (w2 : Int32) (h : gz_H) : Option (Int32 × gz_H) :=
    gz_ck (gz_sh h b0 9 29) <|
    gz_b2 (fX9_no b0 w1 w2 h) fun y_2 h_1 =>
    if y_2 = 0 then (
     gz_ck (gz_sh h_1 a0 9 29) <|
     gz_b2 (fX9_keepPast a0 h_1) fun _ h_5 =>
     gz_ck (gz_sh h_5 a0 9 29) <|
     gz_b2 (fX9_layHeld a0 x1 h_5) fun _ h_8 =>
     fX9_eat_64 gz_fu a0 x1 x2 (0 : Int32) h_8
    ) else (
     some (y_2, h_1)
    )
set_option maxRecDepth 100000 in
set_option maxHeartbeats 1000000 in
theorem sX9_eat_42 {G : gz_G} {d l0 s0 : Nat} {Q : Int32 → gz_H → Prop} (a0 : Nat) (x1 : Int32) (x2 : Int32) (b0 : Nat) (w1 : Int32) (w2 : Int32) (h : gz_H) (hf : gz_g (fX9_eat_42  a0 x1 x2 b0 w1 w2 h) Q) : gz_Ok G mX9_eat (d + 4, l0, s0, 0, 0) 42 [.ref a0, .int x1, .int x2, .retAddr 0, .retAddr 0] [.int w2, .int w1, .ref b0] h (gz_qi Q) := by
  unfold fX9_eat_42 at hf
  refine gz_gk hf (fun c_3 hf => ?_)
  refine gz_cVI (av := [.int w1, .int w2]) (st := []) (pc := 42) dX9_eat_42 kl_RX9_225 rfl (gz_shs c_3) rfl rfl (Nat.le_of_ble_eq_true rfl) (by show d + 1 + 2 + 1 ≤ d + 4; omega) (sX9_no (d := d + 1) (gz_gc hf)) (fun y_2 h_1 hf => ?_)
  refine gz_istore_n (lv := [.ref a0, .int x1, .int x2, .int y_2, .retAddr 0]) (pc := 45) dX9_eat_45 rfl (by decide) rfl ?_
  refine gz_iload_n (pc := 46) dX9_eat_46 rfl rfl ?_
  refine gz_if_eq (tgt := 52) (pc := 47) dX9_eat_47 rfl (fun c_4 => ?_) (fun c_4 => ?_)
  · have hf := gz_gT hf c_4
    refine gz_aload_n (pc := 52) dX9_eat_52 rfl rfl ?_
    refine gz_gk hf (fun c_7 hf => ?_)
    refine gz_cVV (av := []) (st := []) (pc := 53) dX9_eat_53 kl_RX9_228 rfl (gz_shs c_7) rfl rfl (Nat.le_of_ble_eq_true rfl) (by show d + 3 + 0 + 1 ≤ d + 4; omega) (sX9_keepPast (d := d + 3) (gz_gc hf)) (fun _ h_5 hf => ?_)
    refine gz_aload_n (pc := 56) dX9_eat_56 rfl rfl ?_
    refine gz_iload_n (pc := 57) dX9_eat_57 rfl rfl ?_
    refine gz_gk hf (fun c_10 hf => ?_)
    refine gz_cVV (av := [.int x1]) (st := []) (pc := 58) dX9_eat_58 kl_RX9_173 rfl (gz_shs c_10) rfl rfl (Nat.le_of_ble_eq_true rfl) (by show d + 2 + 1 + 1 ≤ d + 4; omega) (sX9_layHeld (d := d + 2) (gz_gc hf)) (fun _ h_8 hf => ?_)
    refine gz_iconst (v := (0 : Int32)) (pc := 61) dX9_eat_61 rfl ?_
    refine gz_istore (lv := [.ref a0, .int x1, .int x2, .int y_2, .int (0 : Int32)]) (pc := 62) dX9_eat_62 (by decide) rfl ?_
    refine gz_fg (lv := [.ref a0, .int x1, .int x2, .retAddr 0, .int (0 : Int32)]) ⟨Or.inr rfl, ⟨Or.inr rfl, ⟨Or.inr rfl, ⟨Or.inl rfl, ⟨Or.inr rfl, trivial⟩⟩⟩⟩⟩ ?_
    exact sX9_eat_64 gz_fu a0 x1 x2 (0 : Int32) h_8 hf
  · have hf := gz_gF hf c_4
    refine gz_iload_n (pc := 50) dX9_eat_50 rfl rfl ?_
    exact gz_irt (pc := 51) dX9_eat_51 rfl rfl hf
def fX9_eat_29  (a0 : Nat) (x1 : Int32) (x2 : Int32) (h : gz_H) : Option (Int32 × gz_H) :=
    if x2 = (-9 : Int32) then (
     fX9_eat_42 a0 x1 x2 a0 x1 x1 h
    ) else (
     fX9_eat_42 a0 x1 x2 a0 x1 x2 h
    )
set_option maxRecDepth 100000 in
set_option maxHeartbeats 1000000 in
theorem sX9_eat_29 {G : gz_G} {d l0 s0 : Nat} {Q : Int32 → gz_H → Prop} (a0 : Nat) (x1 : Int32) (x2 : Int32) (h : gz_H) (hf : gz_g (fX9_eat_29  a0 x1 x2 h) Q) : gz_Ok G mX9_eat (d + 4, l0, s0, 0, 0) 29 [.ref a0, .int x1, .int x2, .retAddr 0, .retAddr 0] [] h (gz_qi Q) := by
  unfold fX9_eat_29 at hf
  refine gz_aload_n (pc := 29) dX9_eat_29 rfl rfl ?_
  refine gz_iload_n (pc := 30) dX9_eat_30 rfl rfl ?_
  refine gz_iload_n (pc := 31) dX9_eat_31 rfl rfl ?_
  refine gz_bipush (v := (-9 : Int32)) (pc := 32) dX9_eat_32 rfl ?_
  refine gz_icmp_ne (tgt := 41) (pc := 34) dX9_eat_34 rfl (fun c_1 => ?_) (fun c_1 => ?_)
  · have hf := gz_gF hf c_1
    refine gz_iload_n (pc := 41) dX9_eat_41 rfl rfl ?_
    exact sX9_eat_42 a0 x1 x2 a0 x1 x2 h hf
  · have hf := gz_gT hf c_1
    refine gz_iload_n (pc := 37) dX9_eat_37 rfl rfl ?_
    refine gz_goto (tgt := 42) (pc := 38) dX9_eat_38 rfl ?_
    exact sX9_eat_42 a0 x1 x2 a0 x1 x1 h hf
def fX9_eat_0  (a0 : Nat) (x1 : Int32) (x2 : Int32) (h : gz_H) : Option (Int32 × gz_H) :=
    gz_ck (gz_sh h a0 9 29) <|
    gz_b2 (fX9_isGoose a0 x1 h) fun y_2 h_1 =>
    if y_2 = 0 then (
     some ((-1 : Int32), h_1)
    ) else (
     if x2 = (-9 : Int32) then (
      fX9_eat_29 a0 x1 x2 h_1
     ) else (
      gz_ck (gz_sh h_1 a0 9 29) <|
      gz_b2 (fX9_isGoose a0 x2 h_1) fun y_7 h_6 =>
      if y_7 = 0 then (
       some ((-1 : Int32), h_6)
      ) else (
       if x2 = x1 then (
        some ((-1 : Int32), h_6)
       ) else (
        fX9_eat_29 a0 x1 x2 h_6
       )
      )
     )
    )
set_option maxRecDepth 100000 in
set_option maxHeartbeats 1000000 in
theorem sX9_eat_0 {G : gz_G} {d l0 s0 : Nat} {Q : Int32 → gz_H → Prop} (a0 : Nat) (x1 : Int32) (x2 : Int32) (h : gz_H) (hf : gz_g (fX9_eat_0  a0 x1 x2 h) Q) : gz_Ok G mX9_eat (d + 4, l0, s0, 0, 0) 0 [.ref a0, .int x1, .int x2, .retAddr 0, .retAddr 0] [] h (gz_qi Q) := by
  unfold fX9_eat_0 at hf
  refine gz_aload_n (pc := 0) dX9_eat_0 rfl rfl ?_
  refine gz_iload_n (pc := 1) dX9_eat_1 rfl rfl ?_
  refine gz_gk hf (fun c_3 hf => ?_)
  refine gz_cVI (av := [.int x1]) (st := []) (pc := 2) dX9_eat_2 kl_RX9_196 rfl (gz_shs c_3) rfl rfl (Nat.le_of_ble_eq_true rfl) (by show d + 2 + 1 + 1 ≤ d + 4; omega) (sX9_isGoose (d := d + 2) (gz_gc hf)) (fun y_2 h_1 hf => ?_)
  refine gz_if_eq (tgt := 27) (pc := 5) dX9_eat_5 rfl (fun c_4 => ?_) (fun c_4 => ?_)
  · have hf := gz_gT hf c_4
    refine gz_iconst (v := (-1 : Int32)) (pc := 27) dX9_eat_27 rfl ?_
    exact gz_irt (pc := 28) dX9_eat_28 rfl rfl hf
  · have hf := gz_gF hf c_4
    refine gz_iload_n (pc := 8) dX9_eat_8 rfl rfl ?_
    refine gz_bipush (v := (-9 : Int32)) (pc := 9) dX9_eat_9 rfl ?_
    refine gz_icmp_eq (tgt := 29) (pc := 11) dX9_eat_11 rfl (fun c_5 => ?_) (fun c_5 => ?_)
    · have hf := gz_gT hf c_5
      exact sX9_eat_29 a0 x1 x2 h_1 hf
    · have hf := gz_gF hf c_5
      refine gz_aload_n (pc := 14) dX9_eat_14 rfl rfl ?_
      refine gz_iload_n (pc := 15) dX9_eat_15 rfl rfl ?_
      refine gz_gk hf (fun c_8 hf => ?_)
      refine gz_cVI (av := [.int x2]) (st := []) (pc := 16) dX9_eat_16 kl_RX9_196 rfl (gz_shs c_8) rfl rfl (Nat.le_of_ble_eq_true rfl) (by show d + 2 + 1 + 1 ≤ d + 4; omega) (sX9_isGoose (d := d + 2) (gz_gc hf)) (fun y_7 h_6 hf => ?_)
      refine gz_if_eq (tgt := 27) (pc := 19) dX9_eat_19 rfl (fun c_9 => ?_) (fun c_9 => ?_)
      · have hf := gz_gT hf c_9
        refine gz_iconst (v := (-1 : Int32)) (pc := 27) dX9_eat_27 rfl ?_
        exact gz_irt (pc := 28) dX9_eat_28 rfl rfl hf
      · have hf := gz_gF hf c_9
        refine gz_iload_n (pc := 22) dX9_eat_22 rfl rfl ?_
        refine gz_iload_n (pc := 23) dX9_eat_23 rfl rfl ?_
        refine gz_icmp_ne (tgt := 29) (pc := 24) dX9_eat_24 rfl (fun c_10 => ?_) (fun c_10 => ?_)
        · have hf := gz_gF hf c_10
          exact sX9_eat_29 a0 x1 x2 h_6 hf
        · have hf := gz_gT hf c_10
          refine gz_iconst (v := (-1 : Int32)) (pc := 27) dX9_eat_27 rfl ?_
          exact gz_irt (pc := 28) dX9_eat_28 rfl rfl hf
def fX9_eat (a0 : Nat) (x1 : Int32) (x2 : Int32) (h : gz_H) : Option (Int32 × gz_H) := fX9_eat_0 a0 x1 x2 h
theorem sX9_eat {G : gz_G} {d : Nat} {a0 : Nat} {x1 : Int32} {x2 : Int32} {h : gz_H} {Q : Int32 → gz_H → Prop} (hf : gz_g (fX9_eat a0 x1 x2 h) Q) : gz_Cl G mX9_eat (d + 4) 0 0 [.ref a0, .int x1, .int x2] h (gz_qi Q) := gz_cl_of (lo := [.ref a0, .int x1, .int x2, .retAddr 0, .retAddr 0]) (by decide) rfl rfl (Nat.le_of_ble_eq_true rfl) (sX9_eat_0 a0 x1 x2 h hf)
theorem dX9_undo_0 : decode cX9_undo 0 = .ok (.iload_n 1, 1) := by decide +kernel
theorem dX9_undo_1 : decode cX9_undo 1 = .ok (.i2l, 1) := by decide +kernel
theorem dX9_undo_2 : decode cX9_undo 2 = .ok (.lconst 0, 1) := by decide +kernel
theorem dX9_undo_3 : decode cX9_undo 3 = .ok (.aload_n 0, 1) := by decide +kernel
theorem dX9_undo_4 : decode cX9_undo 4 = .ok (.getfield 7, 3) := by decide +kernel
theorem dX9_undo_7 : decode cX9_undo 7 = .ok (.iconst 0, 1) := by decide +kernel
theorem dX9_undo_8 : decode cX9_undo 8 = .ok (.iaload, 1) := by decide +kernel
theorem dX9_undo_9 : decode cX9_undo 9 = .ok (.i2l, 1) := by decide +kernel
theorem dX9_undo_10 : decode cX9_undo 10 = .ok (.invokestatic 74, 3) := by decide +kernel
theorem dX9_undo_13 : decode cX9_undo 13 = .ok (.ifCond .ne 5, 3) := by decide +kernel
theorem dX9_undo_16 : decode cX9_undo 16 = .ok (.iconst (-1), 1) := by decide +kernel
theorem dX9_undo_17 : decode cX9_undo 17 = .ok (.ireturn, 1) := by decide +kernel
theorem dX9_undo_18 : decode cX9_undo 18 = .ok (.aload_n 0, 1) := by decide +kernel
theorem dX9_undo_19 : decode cX9_undo 19 = .ok (.getfield 7, 3) := by decide +kernel
theorem dX9_undo_22 : decode cX9_undo 22 = .ok (.iconst 0, 1) := by decide +kernel
theorem dX9_undo_23 : decode cX9_undo 23 = .ok (.iaload, 1) := by decide +kernel
theorem dX9_undo_24 : decode cX9_undo 24 = .ok (.iload_n 1, 1) := by decide +kernel
theorem dX9_undo_25 : decode cX9_undo 25 = .ok (.isub, 1) := by decide +kernel
theorem dX9_undo_26 : decode cX9_undo 26 = .ok (.istore_n 2, 1) := by decide +kernel
theorem dX9_undo_27 : decode cX9_undo 27 = .ok (.iconst 0, 1) := by decide +kernel
theorem dX9_undo_28 : decode cX9_undo 28 = .ok (.istore_n 3, 1) := by decide +kernel
theorem dX9_undo_29 : decode cX9_undo 29 = .ok (.iload_n 3, 1) := by decide +kernel
theorem dX9_undo_30 : decode cX9_undo 30 = .ok (.bipush 55, 2) := by decide +kernel
theorem dX9_undo_32 : decode cX9_undo 32 = .ok (.if_icmp .ge 35, 3) := by decide +kernel
theorem dX9_undo_35 : decode cX9_undo 35 = .ok (.iload_n 2, 1) := by decide +kernel
theorem dX9_undo_36 : decode cX9_undo 36 = .ok (.ifCond .le 31, 3) := by decide +kernel
theorem dX9_undo_39 : decode cX9_undo 39 = .ok (.aload_n 0, 1) := by decide +kernel
theorem dX9_undo_40 : decode cX9_undo 40 = .ok (.getfield 7, 3) := by decide +kernel
theorem dX9_undo_43 : decode cX9_undo 43 = .ok (.iconst 1, 1) := by decide +kernel
theorem dX9_undo_44 : decode cX9_undo 44 = .ok (.iload_n 3, 1) := by decide +kernel
theorem dX9_undo_45 : decode cX9_undo 45 = .ok (.iadd, 1) := by decide +kernel
theorem dX9_undo_46 : decode cX9_undo 46 = .ok (.aload_n 0, 1) := by decide +kernel
theorem dX9_undo_47 : decode cX9_undo 47 = .ok (.getfield 7, 3) := by decide +kernel
theorem dX9_undo_50 : decode cX9_undo 50 = .ok (.bipush 56, 2) := by decide +kernel
theorem dX9_undo_52 : decode cX9_undo 52 = .ok (.bipush 55, 2) := by decide +kernel
theorem dX9_undo_54 : decode cX9_undo 54 = .ok (.iload_n 1, 1) := by decide +kernel
theorem dX9_undo_55 : decode cX9_undo 55 = .ok (.imul, 1) := by decide +kernel
theorem dX9_undo_56 : decode cX9_undo 56 = .ok (.iadd, 1) := by decide +kernel
theorem dX9_undo_57 : decode cX9_undo 57 = .ok (.iload_n 3, 1) := by decide +kernel
theorem dX9_undo_58 : decode cX9_undo 58 = .ok (.iadd, 1) := by decide +kernel
theorem dX9_undo_59 : decode cX9_undo 59 = .ok (.iaload, 1) := by decide +kernel
theorem dX9_undo_60 : decode cX9_undo 60 = .ok (.iastore, 1) := by decide +kernel
theorem dX9_undo_61 : decode cX9_undo 61 = .ok (.iinc 3 1, 3) := by decide +kernel
theorem dX9_undo_64 : decode cX9_undo 64 = .ok (.goto (-35), 3) := by decide +kernel
theorem dX9_undo_67 : decode cX9_undo 67 = .ok (.aload_n 0, 1) := by decide +kernel
theorem dX9_undo_68 : decode cX9_undo 68 = .ok (.getfield 7, 3) := by decide +kernel
theorem dX9_undo_71 : decode cX9_undo 71 = .ok (.iconst 0, 1) := by decide +kernel
theorem dX9_undo_72 : decode cX9_undo 72 = .ok (.iload_n 1, 1) := by decide +kernel
theorem dX9_undo_73 : decode cX9_undo 73 = .ok (.iastore, 1) := by decide +kernel
theorem dX9_undo_74 : decode cX9_undo 74 = .ok (.iload_n 2, 1) := by decide +kernel
theorem dX9_undo_75 : decode cX9_undo 75 = .ok (.ireturn, 1) := by decide +kernel
def fX9_undo_67  (a0 : Nat) (x1 : Int32) (x2 : Int32) (h : gz_H) : Option (Int32 × gz_H) :=
    gz_ck (gz_sh h a0 9 29) <|
    gz_br (h.2.2.2 a0 0) fun r_2 =>
    gz_ck (gz_inb h r_2 10 (0 : Int32)) <|
    gz_lt (uI h r_2 (0 : Int32).toNatClampNeg x1) fun h_4 =>
    some (x2, h_4)
set_option maxRecDepth 100000 in
set_option maxHeartbeats 1000000 in
theorem sX9_undo_67 {G : gz_G} {d l0 s0 : Nat} {Q : Int32 → gz_H → Prop} (a0 : Nat) (x1 : Int32) (x2 : Int32) (h : gz_H) (hf : gz_g (fX9_undo_67  a0 x1 x2 h) Q) : gz_Ok G mX9_undo (d + 1, l0, s0, 0, 0) 67 [.ref a0, .int x1, .int x2, .retAddr 0] [] h (gz_qi Q) := by
  unfold fX9_undo_67 at hf
  refine gz_aload_n (pc := 67) dX9_undo_67 rfl rfl ?_
  refine gz_gk hf (fun c_1 hf => ?_)
  refine gz_gb hf (fun r_2 er_2 hf => ?_)
  refine gz_getR (pc := 68) dX9_undo_68 fl_RX9_7 rfl (gz_shs c_1) er_2 ?_
  refine gz_iconst (v := (0 : Int32)) (pc := 71) dX9_undo_71 rfl ?_
  refine gz_iload_n (pc := 72) dX9_undo_72 rfl rfl ?_
  refine gz_gk hf (fun c_3 hf => ?_)
  refine gz_iast (pc := 73) dX9_undo_73 c_3 ?_
  refine gz_nmH (fun h_4 eh_4 => ?_)
  have hf := gz_gl eh_4 hf
  refine gz_iload_n (pc := 74) dX9_undo_74 rfl rfl ?_
  exact gz_irt (pc := 75) dX9_undo_75 rfl rfl hf
def fX9_undo_29  : Nat → Nat → Int32 → Int32 → Int32 → gz_H → Option (Int32 × gz_H)
  | 0, _, _, _, _, _ => none
  | n + 1, a0, x1, x2, x3, h =>
    if (55 : Int32) ≤ x3 then (
     fX9_undo_67 a0 x1 x2 h
    ) else (
     if x2 ≤ 0 then (
      fX9_undo_67 a0 x1 x2 h
     ) else (
      gz_ck (gz_sh h a0 9 29) <|
      gz_br (h.2.2.2 a0 0) fun r_4 =>
      gz_ck (gz_inb h r_4 10 (((56 : Int32) + ((55 : Int32) * x1)) + x3)) <|
      gz_ck (gz_inb h r_4 10 ((1 : Int32) + x3)) <|
      gz_lt (uI h r_4 ((1 : Int32) + x3).toNatClampNeg (h.2.1 r_4 (((56 : Int32) + ((55 : Int32) * x1)) + x3).toNatClampNeg)) fun h_7 =>
      fX9_undo_29 n a0 x1 x2 (x3 + 1) h_7
     )
    )
set_option maxRecDepth 100000 in
set_option maxHeartbeats 1000000 in
theorem sX9_undo_29 {G : gz_G} {d l0 s0 : Nat} {Q : Int32 → gz_H → Prop} : ∀ (n : Nat) (a0 : Nat) (x1 : Int32) (x2 : Int32) (x3 : Int32) (h : gz_H), gz_g (fX9_undo_29  n a0 x1 x2 x3 h) Q → gz_Ok G mX9_undo (d + 1, l0, s0, 0, 0) 29 [.ref a0, .int x1, .int x2, .int x3] [] h (gz_qi Q) := by
  intro n
  induction n with
  | zero => intro a0 x1 x2 x3 h hf; exact False.elim hf
  | succ n ih =>
    intro a0 x1 x2 x3 h hf
    rw [fX9_undo_29] at hf
    refine gz_iload_n (pc := 29) dX9_undo_29 rfl rfl ?_
    refine gz_bipush (v := (55 : Int32)) (pc := 30) dX9_undo_30 rfl ?_
    refine gz_icmp_ge (tgt := 67) (pc := 32) dX9_undo_32 rfl (fun c_1 => ?_) (fun c_1 => ?_)
    · have hf := gz_gT hf c_1
      refine gz_fg (lv := [.ref a0, .int x1, .int x2, .retAddr 0]) ⟨Or.inr rfl, ⟨Or.inr rfl, ⟨Or.inr rfl, ⟨Or.inl rfl, trivial⟩⟩⟩⟩ ?_
      exact sX9_undo_67 a0 x1 x2 h hf
    · have hf := gz_gF hf c_1
      refine gz_iload_n (pc := 35) dX9_undo_35 rfl rfl ?_
      refine gz_if_le (tgt := 67) (pc := 36) dX9_undo_36 rfl (fun c_2 => ?_) (fun c_2 => ?_)
      · have hf := gz_gT hf c_2
        refine gz_fg (lv := [.ref a0, .int x1, .int x2, .retAddr 0]) ⟨Or.inr rfl, ⟨Or.inr rfl, ⟨Or.inr rfl, ⟨Or.inl rfl, trivial⟩⟩⟩⟩ ?_
        exact sX9_undo_67 a0 x1 x2 h hf
      · have hf := gz_gF hf c_2
        refine gz_aload_n (pc := 39) dX9_undo_39 rfl rfl ?_
        refine gz_gk hf (fun c_3 hf => ?_)
        refine gz_gb hf (fun r_4 er_4 hf => ?_)
        refine gz_getR (pc := 40) dX9_undo_40 fl_RX9_7 rfl (gz_shs c_3) er_4 ?_
        refine gz_iconst (v := (1 : Int32)) (pc := 43) dX9_undo_43 rfl ?_
        refine gz_iload_n (pc := 44) dX9_undo_44 rfl rfl ?_
        refine gz_iadd (pc := 45) dX9_undo_45 ?_
        refine gz_aload_n (pc := 46) dX9_undo_46 rfl rfl ?_
        refine gz_getR (pc := 47) dX9_undo_47 fl_RX9_7 rfl (gz_shs c_3) er_4 ?_
        refine gz_bipush (v := (56 : Int32)) (pc := 50) dX9_undo_50 rfl ?_
        refine gz_bipush (v := (55 : Int32)) (pc := 52) dX9_undo_52 rfl ?_
        refine gz_iload_n (pc := 54) dX9_undo_54 rfl rfl ?_
        refine gz_imul (pc := 55) dX9_undo_55 ?_
        refine gz_iadd (pc := 56) dX9_undo_56 ?_
        refine gz_iload_n (pc := 57) dX9_undo_57 rfl rfl ?_
        refine gz_iadd (pc := 58) dX9_undo_58 ?_
        refine gz_gk hf (fun c_5 hf => ?_)
        refine gz_iald (pc := 59) dX9_undo_59 c_5 ?_
        refine gz_gk hf (fun c_6 hf => ?_)
        refine gz_iast (pc := 60) dX9_undo_60 c_6 ?_
        refine gz_nmH (fun h_7 eh_7 => ?_)
        have hf := gz_gl eh_7 hf
        refine gz_iinc (v := x3 + 1) (lv := [.ref a0, .int x1, .int x2, .int (x3 + 1)]) (pc := 61) dX9_undo_61 rfl rfl (by decide) rfl ?_
        refine gz_goto (tgt := 29) (pc := 64) dX9_undo_64 rfl ?_
        exact ih a0 x1 x2 (x3 + 1) h_7 hf
def fX9_undo_0  (a0 : Nat) (x1 : Int32) (h : gz_H) : Option (Int32 × gz_H) :=
    gz_ck (gz_sh h a0 9 29) <|
    gz_br (h.2.2.2 a0 0) fun r_2 =>
    gz_ck (gz_inb h r_2 10 (0 : Int32)) <|
    gz_b2 (fX9_in x1.toInt64 (0 : Int64) ((h.2.1 r_2 (0 : Int32).toNatClampNeg).toInt64) h) fun y_5 h_4 =>
    if y_5 = 0 then (
     some ((-1 : Int32), h_4)
    ) else (
     gz_ck (gz_sh h_4 a0 9 29) <|
     gz_br (h_4.2.2.2 a0 0) fun r_8 =>
     gz_ck (gz_inb h_4 r_8 10 (0 : Int32)) <|
     fX9_undo_29 gz_fu a0 x1 ((h_4.2.1 r_8 (0 : Int32).toNatClampNeg) - x1) (0 : Int32) h_4
    )
set_option maxRecDepth 100000 in
set_option maxHeartbeats 1000000 in
theorem sX9_undo_0 {G : gz_G} {d l0 s0 : Nat} {Q : Int32 → gz_H → Prop} (a0 : Nat) (x1 : Int32) (h : gz_H) (hf : gz_g (fX9_undo_0  a0 x1 h) Q) : gz_Ok G mX9_undo (d + 1, l0, s0, 0, 0) 0 [.ref a0, .int x1, .retAddr 0, .retAddr 0] [] h (gz_qi Q) := by
  unfold fX9_undo_0 at hf
  refine gz_iload_n (pc := 0) dX9_undo_0 rfl rfl ?_
  refine gz_i2l (pc := 1) dX9_undo_1 ?_
  refine gz_lconst (v := (0 : Int64)) (pc := 2) dX9_undo_2 rfl ?_
  refine gz_aload_n (pc := 3) dX9_undo_3 rfl rfl ?_
  refine gz_gk hf (fun c_1 hf => ?_)
  refine gz_gb hf (fun r_2 er_2 hf => ?_)
  refine gz_getR (pc := 4) dX9_undo_4 fl_RX9_7 rfl (gz_shs c_1) er_2 ?_
  refine gz_iconst (v := (0 : Int32)) (pc := 7) dX9_undo_7 rfl ?_
  refine gz_gk hf (fun c_3 hf => ?_)
  refine gz_iald (pc := 8) dX9_undo_8 c_3 ?_
  refine gz_i2l (pc := 9) dX9_undo_9 ?_
  refine gz_cSI (av := [.long x1.toInt64, .long (0 : Int64), .long ((h.2.1 r_2 (0 : Int32).toNatClampNeg).toInt64)]) (st := []) (pc := 10) dX9_undo_10 kl_RX9_74 rfl rfl (Nat.le_of_ble_eq_true rfl) (by show d + 0 + 0 + 1 ≤ d + 1; omega) (sX9_in (d := d + 0) (gz_gc hf)) (fun y_5 h_4 hf => ?_)
  refine gz_if_ne (tgt := 18) (pc := 13) dX9_undo_13 rfl (fun c_6 => ?_) (fun c_6 => ?_)
  · have hf := gz_gF hf c_6
    refine gz_aload_n (pc := 18) dX9_undo_18 rfl rfl ?_
    refine gz_gk hf (fun c_7 hf => ?_)
    refine gz_gb hf (fun r_8 er_8 hf => ?_)
    refine gz_getR (pc := 19) dX9_undo_19 fl_RX9_7 rfl (gz_shs c_7) er_8 ?_
    refine gz_iconst (v := (0 : Int32)) (pc := 22) dX9_undo_22 rfl ?_
    refine gz_gk hf (fun c_9 hf => ?_)
    refine gz_iald (pc := 23) dX9_undo_23 c_9 ?_
    refine gz_iload_n (pc := 24) dX9_undo_24 rfl rfl ?_
    refine gz_isub (pc := 25) dX9_undo_25 ?_
    refine gz_istore_n (lv := [.ref a0, .int x1, .int ((h_4.2.1 r_8 (0 : Int32).toNatClampNeg) - x1), .retAddr 0]) (pc := 26) dX9_undo_26 rfl (by decide) rfl ?_
    refine gz_iconst (v := (0 : Int32)) (pc := 27) dX9_undo_27 rfl ?_
    refine gz_istore_n (lv := [.ref a0, .int x1, .int ((h_4.2.1 r_8 (0 : Int32).toNatClampNeg) - x1), .int (0 : Int32)]) (pc := 28) dX9_undo_28 rfl (by decide) rfl ?_
    exact sX9_undo_29 gz_fu a0 x1 ((h_4.2.1 r_8 (0 : Int32).toNatClampNeg) - x1) (0 : Int32) h_4 hf
  · have hf := gz_gT hf c_6
    refine gz_iconst (v := (-1 : Int32)) (pc := 16) dX9_undo_16 rfl ?_
    exact gz_irt (pc := 17) dX9_undo_17 rfl rfl hf
def fX9_undo (a0 : Nat) (x1 : Int32) (h : gz_H) : Option (Int32 × gz_H) := fX9_undo_0 a0 x1 h
theorem sX9_undo {G : gz_G} {d : Nat} {a0 : Nat} {x1 : Int32} {h : gz_H} {Q : Int32 → gz_H → Prop} (hf : gz_g (fX9_undo a0 x1 h) Q) : gz_Cl G mX9_undo (d + 1) 0 0 [.ref a0, .int x1] h (gz_qi Q) := gz_cl_of (lo := [.ref a0, .int x1, .retAddr 0, .retAddr 0]) (by decide) rfl rfl (Nat.le_of_ble_eq_true rfl) (sX9_undo_0 a0 x1 h hf)
theorem dX9_copyFlock_0 : decode cX9_copyFlock 0 = .ok (.iconst 0, 1) := by decide +kernel
theorem dX9_copyFlock_1 : decode cX9_copyFlock 1 = .ok (.istore_n 3, 1) := by decide +kernel
theorem dX9_copyFlock_2 : decode cX9_copyFlock 2 = .ok (.iload_n 3, 1) := by decide +kernel
theorem dX9_copyFlock_3 : decode cX9_copyFlock 3 = .ok (.sipush 2256, 3) := by decide +kernel
theorem dX9_copyFlock_6 : decode cX9_copyFlock 6 = .ok (.if_icmp .ge 25, 3) := by decide +kernel
theorem dX9_copyFlock_9 : decode cX9_copyFlock 9 = .ok (.aload_n 0, 1) := by decide +kernel
theorem dX9_copyFlock_10 : decode cX9_copyFlock 10 = .ok (.getfield 7, 3) := by decide +kernel
theorem dX9_copyFlock_13 : decode cX9_copyFlock 13 = .ok (.iload_n 2, 1) := by decide +kernel
theorem dX9_copyFlock_14 : decode cX9_copyFlock 14 = .ok (.iload_n 3, 1) := by decide +kernel
theorem dX9_copyFlock_15 : decode cX9_copyFlock 15 = .ok (.iadd, 1) := by decide +kernel
theorem dX9_copyFlock_16 : decode cX9_copyFlock 16 = .ok (.aload_n 0, 1) := by decide +kernel
theorem dX9_copyFlock_17 : decode cX9_copyFlock 17 = .ok (.getfield 7, 3) := by decide +kernel
theorem dX9_copyFlock_20 : decode cX9_copyFlock 20 = .ok (.iload_n 1, 1) := by decide +kernel
theorem dX9_copyFlock_21 : decode cX9_copyFlock 21 = .ok (.iload_n 3, 1) := by decide +kernel
theorem dX9_copyFlock_22 : decode cX9_copyFlock 22 = .ok (.iadd, 1) := by decide +kernel
theorem dX9_copyFlock_23 : decode cX9_copyFlock 23 = .ok (.iaload, 1) := by decide +kernel
theorem dX9_copyFlock_24 : decode cX9_copyFlock 24 = .ok (.iastore, 1) := by decide +kernel
theorem dX9_copyFlock_25 : decode cX9_copyFlock 25 = .ok (.iinc 3 1, 3) := by decide +kernel
theorem dX9_copyFlock_28 : decode cX9_copyFlock 28 = .ok (.goto (-26), 3) := by decide +kernel
theorem dX9_copyFlock_31 : decode cX9_copyFlock 31 = .ok (.return_, 1) := by decide +kernel
def fX9_copyFlock_2  : Nat → Nat → Int32 → Int32 → Int32 → gz_H → Option (Unit × gz_H)
  | 0, _, _, _, _, _ => none
  | n + 1, a0, x1, x2, x3, h =>
    if (2256 : Int32) ≤ x3 then (
     some ((), h)
    ) else (
     gz_ck (gz_sh h a0 9 29) <|
     gz_br (h.2.2.2 a0 0) fun r_3 =>
     gz_ck (gz_inb h r_3 10 (x1 + x3)) <|
     gz_ck (gz_inb h r_3 10 (x2 + x3)) <|
     gz_lt (uI h r_3 (x2 + x3).toNatClampNeg (h.2.1 r_3 (x1 + x3).toNatClampNeg)) fun h_6 =>
     fX9_copyFlock_2 n a0 x1 x2 (x3 + 1) h_6
    )
set_option maxRecDepth 100000 in
set_option maxHeartbeats 1000000 in
theorem sX9_copyFlock_2 {G : gz_G} {d l0 s0 : Nat} {Q : Unit → gz_H → Prop} : ∀ (n : Nat) (a0 : Nat) (x1 : Int32) (x2 : Int32) (x3 : Int32) (h : gz_H), gz_g (fX9_copyFlock_2  n a0 x1 x2 x3 h) Q → gz_Ok G mX9_copyFlock (d + 0, l0, s0, 0, 0) 2 [.ref a0, .int x1, .int x2, .int x3] [] h (gz_qu Q) := by
  intro n
  induction n with
  | zero => intro a0 x1 x2 x3 h hf; exact False.elim hf
  | succ n ih =>
    intro a0 x1 x2 x3 h hf
    rw [fX9_copyFlock_2] at hf
    refine gz_iload_n (pc := 2) dX9_copyFlock_2 rfl rfl ?_
    refine gz_sipush (v := (2256 : Int32)) (pc := 3) dX9_copyFlock_3 rfl ?_
    refine gz_icmp_ge (tgt := 31) (pc := 6) dX9_copyFlock_6 rfl (fun c_1 => ?_) (fun c_1 => ?_)
    · have hf := gz_gT hf c_1
      exact gz_uret (pc := 31) dX9_copyFlock_31 rfl hf
    · have hf := gz_gF hf c_1
      refine gz_aload_n (pc := 9) dX9_copyFlock_9 rfl rfl ?_
      refine gz_gk hf (fun c_2 hf => ?_)
      refine gz_gb hf (fun r_3 er_3 hf => ?_)
      refine gz_getR (pc := 10) dX9_copyFlock_10 fl_RX9_7 rfl (gz_shs c_2) er_3 ?_
      refine gz_iload_n (pc := 13) dX9_copyFlock_13 rfl rfl ?_
      refine gz_iload_n (pc := 14) dX9_copyFlock_14 rfl rfl ?_
      refine gz_iadd (pc := 15) dX9_copyFlock_15 ?_
      refine gz_aload_n (pc := 16) dX9_copyFlock_16 rfl rfl ?_
      refine gz_getR (pc := 17) dX9_copyFlock_17 fl_RX9_7 rfl (gz_shs c_2) er_3 ?_
      refine gz_iload_n (pc := 20) dX9_copyFlock_20 rfl rfl ?_
      refine gz_iload_n (pc := 21) dX9_copyFlock_21 rfl rfl ?_
      refine gz_iadd (pc := 22) dX9_copyFlock_22 ?_
      refine gz_gk hf (fun c_4 hf => ?_)
      refine gz_iald (pc := 23) dX9_copyFlock_23 c_4 ?_
      refine gz_gk hf (fun c_5 hf => ?_)
      refine gz_iast (pc := 24) dX9_copyFlock_24 c_5 ?_
      refine gz_nmH (fun h_6 eh_6 => ?_)
      have hf := gz_gl eh_6 hf
      refine gz_iinc (v := x3 + 1) (lv := [.ref a0, .int x1, .int x2, .int (x3 + 1)]) (pc := 25) dX9_copyFlock_25 rfl rfl (by decide) rfl ?_
      refine gz_goto (tgt := 2) (pc := 28) dX9_copyFlock_28 rfl ?_
      exact ih a0 x1 x2 (x3 + 1) h_6 hf
def fX9_copyFlock_0  (a0 : Nat) (x1 : Int32) (x2 : Int32) (h : gz_H) : Option (Unit × gz_H) :=
    fX9_copyFlock_2 gz_fu a0 x1 x2 (0 : Int32) h
set_option maxRecDepth 100000 in
set_option maxHeartbeats 1000000 in
theorem sX9_copyFlock_0 {G : gz_G} {d l0 s0 : Nat} {Q : Unit → gz_H → Prop} (a0 : Nat) (x1 : Int32) (x2 : Int32) (h : gz_H) (hf : gz_g (fX9_copyFlock_0  a0 x1 x2 h) Q) : gz_Ok G mX9_copyFlock (d + 0, l0, s0, 0, 0) 0 [.ref a0, .int x1, .int x2, .retAddr 0] [] h (gz_qu Q) := by
  unfold fX9_copyFlock_0 at hf
  refine gz_iconst (v := (0 : Int32)) (pc := 0) dX9_copyFlock_0 rfl ?_
  refine gz_istore_n (lv := [.ref a0, .int x1, .int x2, .int (0 : Int32)]) (pc := 1) dX9_copyFlock_1 rfl (by decide) rfl ?_
  exact sX9_copyFlock_2 gz_fu a0 x1 x2 (0 : Int32) h hf
def fX9_copyFlock (a0 : Nat) (x1 : Int32) (x2 : Int32) (h : gz_H) : Option (Unit × gz_H) := fX9_copyFlock_0 a0 x1 x2 h
theorem sX9_copyFlock {G : gz_G} {d : Nat} {a0 : Nat} {x1 : Int32} {x2 : Int32} {h : gz_H} {Q : Unit → gz_H → Prop} (hf : gz_g (fX9_copyFlock a0 x1 x2 h) Q) : gz_Cl G mX9_copyFlock (d + 0) 0 0 [.ref a0, .int x1, .int x2] h (gz_qu Q) := gz_cl_of (lo := [.ref a0, .int x1, .int x2, .retAddr 0]) (by decide) rfl rfl (Nat.le_of_ble_eq_true rfl) (sX9_copyFlock_0 a0 x1 x2 h hf)
theorem dX9_keep_0 : decode cX9_keep 0 = .ok (.iload_n 1, 1) := by decide +kernel
theorem dX9_keep_1 : decode cX9_keep 1 = .ok (.i2l, 1) := by decide +kernel
theorem dX9_keep_2 : decode cX9_keep 2 = .ok (.lconst 0, 1) := by decide +kernel
theorem dX9_keep_3 : decode cX9_keep 3 = .ok (.ldc2_w 240, 3) := by decide +kernel
theorem dX9_keep_6 : decode cX9_keep 6 = .ok (.invokestatic 74, 3) := by decide +kernel
theorem dX9_keep_9 : decode cX9_keep 9 = .ok (.ifCond .ne 5, 3) := by decide +kernel
theorem dX9_keep_12 : decode cX9_keep 12 = .ok (.iconst (-1), 1) := by decide +kernel
theorem dX9_keep_13 : decode cX9_keep 13 = .ok (.ireturn, 1) := by decide +kernel
theorem dX9_keep_14 : decode cX9_keep 14 = .ok (.aload_n 0, 1) := by decide +kernel
theorem dX9_keep_15 : decode cX9_keep 15 = .ok (.getfield 158, 3) := by decide +kernel
theorem dX9_keep_18 : decode cX9_keep 18 = .ok (.ifCond .ne 6, 3) := by decide +kernel
theorem dX9_keep_21 : decode cX9_keep 21 = .ok (.bipush (-4), 2) := by decide +kernel
theorem dX9_keep_23 : decode cX9_keep 23 = .ok (.ireturn, 1) := by decide +kernel
theorem dX9_keep_24 : decode cX9_keep 24 = .ok (.aload_n 0, 1) := by decide +kernel
theorem dX9_keep_25 : decode cX9_keep 25 = .ok (.iconst 0, 1) := by decide +kernel
theorem dX9_keep_26 : decode cX9_keep 26 = .ok (.sipush 2256, 3) := by decide +kernel
theorem dX9_keep_29 : decode cX9_keep 29 = .ok (.iconst 1, 1) := by decide +kernel
theorem dX9_keep_30 : decode cX9_keep 30 = .ok (.iload_n 1, 1) := by decide +kernel
theorem dX9_keep_31 : decode cX9_keep 31 = .ok (.iadd, 1) := by decide +kernel
theorem dX9_keep_32 : decode cX9_keep 32 = .ok (.imul, 1) := by decide +kernel
theorem dX9_keep_33 : decode cX9_keep 33 = .ok (.invokevirtual 242, 3) := by decide +kernel
theorem dX9_keep_36 : decode cX9_keep 36 = .ok (.aload_n 0, 1) := by decide +kernel
theorem dX9_keep_37 : decode cX9_keep 37 = .ok (.getfield 7, 3) := by decide +kernel
theorem dX9_keep_40 : decode cX9_keep 40 = .ok (.iconst 0, 1) := by decide +kernel
theorem dX9_keep_41 : decode cX9_keep 41 = .ok (.iaload, 1) := by decide +kernel
theorem dX9_keep_42 : decode cX9_keep 42 = .ok (.ireturn, 1) := by decide +kernel
def fX9_keep_0  (a0 : Nat) (x1 : Int32) (h : gz_H) : Option (Int32 × gz_H) :=
    gz_b2 (fX9_in x1.toInt64 (0 : Int64) (2 : Int64) h) fun y_2 h_1 =>
    if y_2 = 0 then (
     some ((-1 : Int32), h_1)
    ) else (
     gz_ck (gz_sh h_1 a0 9 29) <|
     if (h_1.2.1 a0 3) = 0 then (
      some ((-4 : Int32), h_1)
     ) else (
      gz_b2 (fX9_copyFlock a0 (0 : Int32) ((2256 : Int32) * ((1 : Int32) + x1)) h_1) fun _ h_6 =>
      gz_ck (gz_sh h_6 a0 9 29) <|
      gz_br (h_6.2.2.2 a0 0) fun r_9 =>
      gz_ck (gz_inb h_6 r_9 10 (0 : Int32)) <|
      some (h_6.2.1 r_9 (0 : Int32).toNatClampNeg, h_6)
     )
    )
set_option maxRecDepth 100000 in
set_option maxHeartbeats 1000000 in
theorem sX9_keep_0 {G : gz_G} {d l0 s0 : Nat} {Q : Int32 → gz_H → Prop} (a0 : Nat) (x1 : Int32) (h : gz_H) (hf : gz_g (fX9_keep_0  a0 x1 h) Q) : gz_Ok G mX9_keep (d + 1, l0, s0, 0, 0) 0 [.ref a0, .int x1] [] h (gz_qi Q) := by
  unfold fX9_keep_0 at hf
  refine gz_iload_n (pc := 0) dX9_keep_0 rfl rfl ?_
  refine gz_i2l (pc := 1) dX9_keep_1 ?_
  refine gz_lconst (v := (0 : Int64)) (pc := 2) dX9_keep_2 rfl ?_
  refine gz_ldc2 (v := (2 : Int64)) (pc := 3) dX9_keep_3 kc_RX9_240 ?_
  refine gz_cSI (av := [.long x1.toInt64, .long (0 : Int64), .long (2 : Int64)]) (st := []) (pc := 6) dX9_keep_6 kl_RX9_74 rfl rfl (Nat.le_of_ble_eq_true rfl) (by show d + 0 + 0 + 1 ≤ d + 1; omega) (sX9_in (d := d + 0) (gz_gc hf)) (fun y_2 h_1 hf => ?_)
  refine gz_if_ne (tgt := 14) (pc := 9) dX9_keep_9 rfl (fun c_3 => ?_) (fun c_3 => ?_)
  · have hf := gz_gF hf c_3
    refine gz_aload_n (pc := 14) dX9_keep_14 rfl rfl ?_
    refine gz_gk hf (fun c_4 hf => ?_)
    refine gz_getI (pc := 15) dX9_keep_15 fl_RX9_158 rfl (gz_shs c_4) ?_
    refine gz_if_ne (tgt := 24) (pc := 18) dX9_keep_18 rfl (fun c_5 => ?_) (fun c_5 => ?_)
    · have hf := gz_gF hf c_5
      refine gz_aload_n (pc := 24) dX9_keep_24 rfl rfl ?_
      refine gz_iconst (v := (0 : Int32)) (pc := 25) dX9_keep_25 rfl ?_
      refine gz_sipush (v := (2256 : Int32)) (pc := 26) dX9_keep_26 rfl ?_
      refine gz_iconst (v := (1 : Int32)) (pc := 29) dX9_keep_29 rfl ?_
      refine gz_iload_n (pc := 30) dX9_keep_30 rfl rfl ?_
      refine gz_iadd (pc := 31) dX9_keep_31 ?_
      refine gz_imul (pc := 32) dX9_keep_32 ?_
      refine gz_cVV (av := [.int (0 : Int32), .int ((2256 : Int32) * ((1 : Int32) + x1))]) (st := []) (pc := 33) dX9_keep_33 kl_RX9_242 rfl (gz_shs c_4) rfl rfl (Nat.le_of_ble_eq_true rfl) (by show d + 0 + 0 + 1 ≤ d + 1; omega) (sX9_copyFlock (d := d + 0) (gz_gc hf)) (fun _ h_6 hf => ?_)
      refine gz_aload_n (pc := 36) dX9_keep_36 rfl rfl ?_
      refine gz_gk hf (fun c_8 hf => ?_)
      refine gz_gb hf (fun r_9 er_9 hf => ?_)
      refine gz_getR (pc := 37) dX9_keep_37 fl_RX9_7 rfl (gz_shs c_8) er_9 ?_
      refine gz_iconst (v := (0 : Int32)) (pc := 40) dX9_keep_40 rfl ?_
      refine gz_gk hf (fun c_10 hf => ?_)
      refine gz_iald (pc := 41) dX9_keep_41 c_10 ?_
      exact gz_irt (pc := 42) dX9_keep_42 rfl rfl hf
    · have hf := gz_gT hf c_5
      refine gz_bipush (v := (-4 : Int32)) (pc := 21) dX9_keep_21 rfl ?_
      exact gz_irt (pc := 23) dX9_keep_23 rfl rfl hf
  · have hf := gz_gT hf c_3
    refine gz_iconst (v := (-1 : Int32)) (pc := 12) dX9_keep_12 rfl ?_
    exact gz_irt (pc := 13) dX9_keep_13 rfl rfl hf
def fX9_keep (a0 : Nat) (x1 : Int32) (h : gz_H) : Option (Int32 × gz_H) := fX9_keep_0 a0 x1 h
theorem sX9_keep {G : gz_G} {d : Nat} {a0 : Nat} {x1 : Int32} {h : gz_H} {Q : Int32 → gz_H → Prop} (hf : gz_g (fX9_keep a0 x1 h) Q) : gz_Cl G mX9_keep (d + 1) 0 0 [.ref a0, .int x1] h (gz_qi Q) := gz_cl_of (lo := [.ref a0, .int x1]) (by decide) rfl rfl (Nat.le_of_ble_eq_true rfl) (sX9_keep_0 a0 x1 h hf)
theorem dX9_on_0 : decode cX9_on 0 = .ok (.iload_n 1, 1) := by decide +kernel
theorem dX9_on_1 : decode cX9_on 1 = .ok (.i2l, 1) := by decide +kernel
theorem dX9_on_2 : decode cX9_on 2 = .ok (.lconst 0, 1) := by decide +kernel
theorem dX9_on_3 : decode cX9_on 3 = .ok (.ldc2_w 240, 3) := by decide +kernel
theorem dX9_on_6 : decode cX9_on 6 = .ok (.invokestatic 74, 3) := by decide +kernel
theorem dX9_on_9 : decode cX9_on 9 = .ok (.ifCond .ne 5, 3) := by decide +kernel
theorem dX9_on_12 : decode cX9_on 12 = .ok (.iconst (-1), 1) := by decide +kernel
theorem dX9_on_13 : decode cX9_on 13 = .ok (.ireturn, 1) := by decide +kernel
theorem dX9_on_14 : decode cX9_on 14 = .ok (.aload_n 0, 1) := by decide +kernel
theorem dX9_on_15 : decode cX9_on 15 = .ok (.getfield 7, 3) := by decide +kernel
theorem dX9_on_18 : decode cX9_on 18 = .ok (.sipush 2256, 3) := by decide +kernel
theorem dX9_on_21 : decode cX9_on 21 = .ok (.iconst 1, 1) := by decide +kernel
theorem dX9_on_22 : decode cX9_on 22 = .ok (.iload_n 1, 1) := by decide +kernel
theorem dX9_on_23 : decode cX9_on 23 = .ok (.iadd, 1) := by decide +kernel
theorem dX9_on_24 : decode cX9_on 24 = .ok (.imul, 1) := by decide +kernel
theorem dX9_on_25 : decode cX9_on 25 = .ok (.iconst 0, 1) := by decide +kernel
theorem dX9_on_26 : decode cX9_on 26 = .ok (.iadd, 1) := by decide +kernel
theorem dX9_on_27 : decode cX9_on 27 = .ok (.iaload, 1) := by decide +kernel
theorem dX9_on_28 : decode cX9_on 28 = .ok (.ifCond .ge 9, 3) := by decide +kernel
theorem dX9_on_31 : decode cX9_on 31 = .ok (.aload_n 0, 1) := by decide +kernel
theorem dX9_on_32 : decode cX9_on 32 = .ok (.iconst 1, 1) := by decide +kernel
theorem dX9_on_33 : decode cX9_on 33 = .ok (.invokevirtual 84, 3) := by decide +kernel
theorem dX9_on_36 : decode cX9_on 36 = .ok (.ireturn, 1) := by decide +kernel
theorem dX9_on_37 : decode cX9_on 37 = .ok (.aload_n 0, 1) := by decide +kernel
theorem dX9_on_38 : decode cX9_on 38 = .ok (.sipush 2256, 3) := by decide +kernel
theorem dX9_on_41 : decode cX9_on 41 = .ok (.iconst 1, 1) := by decide +kernel
theorem dX9_on_42 : decode cX9_on 42 = .ok (.iload_n 1, 1) := by decide +kernel
theorem dX9_on_43 : decode cX9_on 43 = .ok (.iadd, 1) := by decide +kernel
theorem dX9_on_44 : decode cX9_on 44 = .ok (.imul, 1) := by decide +kernel
theorem dX9_on_45 : decode cX9_on 45 = .ok (.iconst 0, 1) := by decide +kernel
theorem dX9_on_46 : decode cX9_on 46 = .ok (.invokevirtual 242, 3) := by decide +kernel
theorem dX9_on_49 : decode cX9_on 49 = .ok (.aload_n 0, 1) := by decide +kernel
theorem dX9_on_50 : decode cX9_on 50 = .ok (.getfield 7, 3) := by decide +kernel
theorem dX9_on_53 : decode cX9_on 53 = .ok (.iconst 0, 1) := by decide +kernel
theorem dX9_on_54 : decode cX9_on 54 = .ok (.iaload, 1) := by decide +kernel
theorem dX9_on_55 : decode cX9_on 55 = .ok (.ireturn, 1) := by decide +kernel
def fX9_on_0  (a0 : Nat) (x1 : Int32) (h : gz_H) : Option (Int32 × gz_H) :=
    gz_b2 (fX9_in x1.toInt64 (0 : Int64) (2 : Int64) h) fun y_2 h_1 =>
    if y_2 = 0 then (
     some ((-1 : Int32), h_1)
    ) else (
     gz_ck (gz_sh h_1 a0 9 29) <|
     gz_br (h_1.2.2.2 a0 0) fun r_5 =>
     gz_ck (gz_inb h_1 r_5 10 (((2256 : Int32) * ((1 : Int32) + x1)) + (0 : Int32))) <|
     if 0 ≤ (h_1.2.1 r_5 (((2256 : Int32) * ((1 : Int32) + x1)) + (0 : Int32)).toNatClampNeg) then (
      gz_b2 (fX9_copyFlock a0 ((2256 : Int32) * ((1 : Int32) + x1)) (0 : Int32) h_1) fun _ h_8 =>
      gz_ck (gz_sh h_8 a0 9 29) <|
      gz_br (h_8.2.2.2 a0 0) fun r_11 =>
      gz_ck (gz_inb h_8 r_11 10 (0 : Int32)) <|
      some (h_8.2.1 r_11 (0 : Int32).toNatClampNeg, h_8)
     ) else (
      gz_b2 (fX9_find a0 (1 : Int32) h_1) fun y_14 h_13 =>
      some (y_14, h_13)
     )
    )
set_option maxRecDepth 100000 in
set_option maxHeartbeats 1000000 in
theorem sX9_on_0 {G : gz_G} {d l0 s0 : Nat} {Q : Int32 → gz_H → Prop} (a0 : Nat) (x1 : Int32) (h : gz_H) (hf : gz_g (fX9_on_0  a0 x1 h) Q) : gz_Ok G mX9_on (d + 1, l0, s0, 0, 0) 0 [.ref a0, .int x1] [] h (gz_qi Q) := by
  unfold fX9_on_0 at hf
  refine gz_iload_n (pc := 0) dX9_on_0 rfl rfl ?_
  refine gz_i2l (pc := 1) dX9_on_1 ?_
  refine gz_lconst (v := (0 : Int64)) (pc := 2) dX9_on_2 rfl ?_
  refine gz_ldc2 (v := (2 : Int64)) (pc := 3) dX9_on_3 kc_RX9_240 ?_
  refine gz_cSI (av := [.long x1.toInt64, .long (0 : Int64), .long (2 : Int64)]) (st := []) (pc := 6) dX9_on_6 kl_RX9_74 rfl rfl (Nat.le_of_ble_eq_true rfl) (by show d + 0 + 0 + 1 ≤ d + 1; omega) (sX9_in (d := d + 0) (gz_gc hf)) (fun y_2 h_1 hf => ?_)
  refine gz_if_ne (tgt := 14) (pc := 9) dX9_on_9 rfl (fun c_3 => ?_) (fun c_3 => ?_)
  · have hf := gz_gF hf c_3
    refine gz_aload_n (pc := 14) dX9_on_14 rfl rfl ?_
    refine gz_gk hf (fun c_4 hf => ?_)
    refine gz_gb hf (fun r_5 er_5 hf => ?_)
    refine gz_getR (pc := 15) dX9_on_15 fl_RX9_7 rfl (gz_shs c_4) er_5 ?_
    refine gz_sipush (v := (2256 : Int32)) (pc := 18) dX9_on_18 rfl ?_
    refine gz_iconst (v := (1 : Int32)) (pc := 21) dX9_on_21 rfl ?_
    refine gz_iload_n (pc := 22) dX9_on_22 rfl rfl ?_
    refine gz_iadd (pc := 23) dX9_on_23 ?_
    refine gz_imul (pc := 24) dX9_on_24 ?_
    refine gz_iconst (v := (0 : Int32)) (pc := 25) dX9_on_25 rfl ?_
    refine gz_iadd (pc := 26) dX9_on_26 ?_
    refine gz_gk hf (fun c_6 hf => ?_)
    refine gz_iald (pc := 27) dX9_on_27 c_6 ?_
    refine gz_if_ge (tgt := 37) (pc := 28) dX9_on_28 rfl (fun c_7 => ?_) (fun c_7 => ?_)
    · have hf := gz_gT hf c_7
      refine gz_aload_n (pc := 37) dX9_on_37 rfl rfl ?_
      refine gz_sipush (v := (2256 : Int32)) (pc := 38) dX9_on_38 rfl ?_
      refine gz_iconst (v := (1 : Int32)) (pc := 41) dX9_on_41 rfl ?_
      refine gz_iload_n (pc := 42) dX9_on_42 rfl rfl ?_
      refine gz_iadd (pc := 43) dX9_on_43 ?_
      refine gz_imul (pc := 44) dX9_on_44 ?_
      refine gz_iconst (v := (0 : Int32)) (pc := 45) dX9_on_45 rfl ?_
      refine gz_cVV (av := [.int ((2256 : Int32) * ((1 : Int32) + x1)), .int (0 : Int32)]) (st := []) (pc := 46) dX9_on_46 kl_RX9_242 rfl (gz_shs c_4) rfl rfl (Nat.le_of_ble_eq_true rfl) (by show d + 0 + 0 + 1 ≤ d + 1; omega) (sX9_copyFlock (d := d + 0) (gz_gc hf)) (fun _ h_8 hf => ?_)
      refine gz_aload_n (pc := 49) dX9_on_49 rfl rfl ?_
      refine gz_gk hf (fun c_10 hf => ?_)
      refine gz_gb hf (fun r_11 er_11 hf => ?_)
      refine gz_getR (pc := 50) dX9_on_50 fl_RX9_7 rfl (gz_shs c_10) er_11 ?_
      refine gz_iconst (v := (0 : Int32)) (pc := 53) dX9_on_53 rfl ?_
      refine gz_gk hf (fun c_12 hf => ?_)
      refine gz_iald (pc := 54) dX9_on_54 c_12 ?_
      exact gz_irt (pc := 55) dX9_on_55 rfl rfl hf
    · have hf := gz_gF hf c_7
      refine gz_aload_n (pc := 31) dX9_on_31 rfl rfl ?_
      refine gz_iconst (v := (1 : Int32)) (pc := 32) dX9_on_32 rfl ?_
      refine gz_cVI (av := [.int (1 : Int32)]) (st := []) (pc := 33) dX9_on_33 kl_RX9_84 rfl (gz_shs c_4) rfl rfl (Nat.le_of_ble_eq_true rfl) (by show d + 0 + 0 + 1 ≤ d + 1; omega) (sX9_find (d := d + 0) (gz_gc hf)) (fun y_14 h_13 hf => ?_)
      exact gz_irt (pc := 36) dX9_on_36 rfl rfl hf
  · have hf := gz_gT hf c_3
    refine gz_iconst (v := (-1 : Int32)) (pc := 12) dX9_on_12 rfl ?_
    exact gz_irt (pc := 13) dX9_on_13 rfl rfl hf
def fX9_on (a0 : Nat) (x1 : Int32) (h : gz_H) : Option (Int32 × gz_H) := fX9_on_0 a0 x1 h
theorem sX9_on {G : gz_G} {d : Nat} {a0 : Nat} {x1 : Int32} {h : gz_H} {Q : Int32 → gz_H → Prop} (hf : gz_g (fX9_on a0 x1 h) Q) : gz_Cl G mX9_on (d + 1) 0 0 [.ref a0, .int x1] h (gz_qi Q) := gz_cl_of (lo := [.ref a0, .int x1]) (by decide) rfl rfl (Nat.le_of_ble_eq_true rfl) (sX9_on_0 a0 x1 h hf)
theorem dX9_tells_0 : decode cX9_tells 0 = .ok (.aload_n 0, 1) := by decide +kernel
theorem dX9_tells_1 : decode cX9_tells 1 = .ok (.iload_n 1, 1) := by decide +kernel
theorem dX9_tells_2 : decode cX9_tells 2 = .ok (.invokevirtual 196, 3) := by decide +kernel
theorem dX9_tells_5 : decode cX9_tells 5 = .ok (.ifCond .eq 19, 3) := by decide +kernel
theorem dX9_tells_8 : decode cX9_tells 8 = .ok (.iload_n 2, 1) := by decide +kernel
theorem dX9_tells_9 : decode cX9_tells 9 = .ok (.invokestatic 245, 3) := by decide +kernel
theorem dX9_tells_12 : decode cX9_tells 12 = .ok (.ifCond .eq 12, 3) := by decide +kernel
theorem dX9_tells_15 : decode cX9_tells 15 = .ok (.aload_n 0, 1) := by decide +kernel
theorem dX9_tells_16 : decode cX9_tells 16 = .ok (.iload_n 1, 1) := by decide +kernel
theorem dX9_tells_17 : decode cX9_tells 17 = .ok (.iload_n 2, 1) := by decide +kernel
theorem dX9_tells_18 : decode cX9_tells 18 = .ok (.invokevirtual 184, 3) := by decide +kernel
theorem dX9_tells_21 : decode cX9_tells 21 = .ok (.goto 4, 3) := by decide +kernel
theorem dX9_tells_24 : decode cX9_tells 24 = .ok (.iconst (-1), 1) := by decide +kernel
theorem dX9_tells_25 : decode cX9_tells 25 = .ok (.ireturn, 1) := by decide +kernel
def fX9_tells_0  (a0 : Nat) (x1 : Int32) (x2 : Int32) (h : gz_H) : Option (Int32 × gz_H) :=
    gz_ck (gz_sh h a0 9 29) <|
    gz_b2 (fX9_isGoose a0 x1 h) fun y_2 h_1 =>
    if y_2 = 0 then (
     some ((-1 : Int32), h_1)
    ) else (
     gz_b2 (fX9_isPlace x2 h_1) fun y_6 h_5 =>
     if y_6 = 0 then (
      some ((-1 : Int32), h_5)
     ) else (
      gz_ck (gz_sh h_5 a0 9 29) <|
      gz_b2 (fX9_tellsAt a0 x1 x2 h_5) fun y_9 h_8 =>
      some (y_9, h_8)
     )
    )
set_option maxRecDepth 100000 in
set_option maxHeartbeats 1000000 in
theorem sX9_tells_0 {G : gz_G} {d l0 s0 : Nat} {Q : Int32 → gz_H → Prop} (a0 : Nat) (x1 : Int32) (x2 : Int32) (h : gz_H) (hf : gz_g (fX9_tells_0  a0 x1 x2 h) Q) : gz_Ok G mX9_tells (d + 3, l0, s0, 0, 0) 0 [.ref a0, .int x1, .int x2] [] h (gz_qi Q) := by
  unfold fX9_tells_0 at hf
  refine gz_aload_n (pc := 0) dX9_tells_0 rfl rfl ?_
  refine gz_iload_n (pc := 1) dX9_tells_1 rfl rfl ?_
  refine gz_gk hf (fun c_3 hf => ?_)
  refine gz_cVI (av := [.int x1]) (st := []) (pc := 2) dX9_tells_2 kl_RX9_196 rfl (gz_shs c_3) rfl rfl (Nat.le_of_ble_eq_true rfl) (by show d + 1 + 1 + 1 ≤ d + 3; omega) (sX9_isGoose (d := d + 1) (gz_gc hf)) (fun y_2 h_1 hf => ?_)
  refine gz_if_eq (tgt := 24) (pc := 5) dX9_tells_5 rfl (fun c_4 => ?_) (fun c_4 => ?_)
  · have hf := gz_gT hf c_4
    refine gz_iconst (v := (-1 : Int32)) (pc := 24) dX9_tells_24 rfl ?_
    exact gz_irt (pc := 25) dX9_tells_25 rfl rfl hf
  · have hf := gz_gF hf c_4
    refine gz_iload_n (pc := 8) dX9_tells_8 rfl rfl ?_
    refine gz_cSI (av := [.int x2]) (st := []) (pc := 9) dX9_tells_9 kl_RX9_245 rfl rfl (Nat.le_of_ble_eq_true rfl) (by show d + 1 + 1 + 1 ≤ d + 3; omega) (sX9_isPlace (d := d + 1) (gz_gc hf)) (fun y_6 h_5 hf => ?_)
    refine gz_if_eq (tgt := 24) (pc := 12) dX9_tells_12 rfl (fun c_7 => ?_) (fun c_7 => ?_)
    · have hf := gz_gT hf c_7
      refine gz_iconst (v := (-1 : Int32)) (pc := 24) dX9_tells_24 rfl ?_
      exact gz_irt (pc := 25) dX9_tells_25 rfl rfl hf
    · have hf := gz_gF hf c_7
      refine gz_aload_n (pc := 15) dX9_tells_15 rfl rfl ?_
      refine gz_iload_n (pc := 16) dX9_tells_16 rfl rfl ?_
      refine gz_iload_n (pc := 17) dX9_tells_17 rfl rfl ?_
      refine gz_gk hf (fun c_10 hf => ?_)
      refine gz_cVI (av := [.int x1, .int x2]) (st := []) (pc := 18) dX9_tells_18 kl_RX9_184 rfl (gz_shs c_10) rfl rfl (Nat.le_of_ble_eq_true rfl) (by show d + 0 + 2 + 1 ≤ d + 3; omega) (sX9_tellsAt (d := d + 0) (gz_gc hf)) (fun y_9 h_8 hf => ?_)
      refine gz_goto (tgt := 25) (pc := 21) dX9_tells_21 rfl ?_
      exact gz_irt (pc := 25) dX9_tells_25 rfl rfl hf
def fX9_tells (a0 : Nat) (x1 : Int32) (x2 : Int32) (h : gz_H) : Option (Int32 × gz_H) := fX9_tells_0 a0 x1 x2 h
theorem sX9_tells {G : gz_G} {d : Nat} {a0 : Nat} {x1 : Int32} {x2 : Int32} {h : gz_H} {Q : Int32 → gz_H → Prop} (hf : gz_g (fX9_tells a0 x1 x2 h) Q) : gz_Cl G mX9_tells (d + 3) 0 0 [.ref a0, .int x1, .int x2] h (gz_qi Q) := gz_cl_of (lo := [.ref a0, .int x1, .int x2]) (by decide) rfl rfl (Nat.le_of_ble_eq_true rfl) (sX9_tells_0 a0 x1 x2 h hf)
theorem dX9_toldByAll_0 : decode cX9_toldByAll 0 = .ok (.iconst 0, 1) := by decide +kernel
theorem dX9_toldByAll_1 : decode cX9_toldByAll 1 = .ok (.istore_n 2, 1) := by decide +kernel
theorem dX9_toldByAll_2 : decode cX9_toldByAll 2 = .ok (.iconst 0, 1) := by decide +kernel
theorem dX9_toldByAll_3 : decode cX9_toldByAll 3 = .ok (.istore_n 3, 1) := by decide +kernel
theorem dX9_toldByAll_4 : decode cX9_toldByAll 4 = .ok (.iload_n 3, 1) := by decide +kernel
theorem dX9_toldByAll_5 : decode cX9_toldByAll 5 = .ok (.aload_n 0, 1) := by decide +kernel
theorem dX9_toldByAll_6 : decode cX9_toldByAll 6 = .ok (.getfield 158, 3) := by decide +kernel
theorem dX9_toldByAll_9 : decode cX9_toldByAll 9 = .ok (.if_icmp .ge 29, 3) := by decide +kernel
theorem dX9_toldByAll_12 : decode cX9_toldByAll 12 = .ok (.iload_n 2, 1) := by decide +kernel
theorem dX9_toldByAll_13 : decode cX9_toldByAll 13 = .ok (.iload_n 1, 1) := by decide +kernel
theorem dX9_toldByAll_14 : decode cX9_toldByAll 14 = .ok (.iload_n 3, 1) := by decide +kernel
theorem dX9_toldByAll_15 : decode cX9_toldByAll 15 = .ok (.invokestatic 142, 3) := by decide +kernel
theorem dX9_toldByAll_18 : decode cX9_toldByAll 18 = .ok (.ifCond .eq 11, 3) := by decide +kernel
theorem dX9_toldByAll_21 : decode cX9_toldByAll 21 = .ok (.aload_n 0, 1) := by decide +kernel
theorem dX9_toldByAll_22 : decode cX9_toldByAll 22 = .ok (.iload_n 3, 1) := by decide +kernel
theorem dX9_toldByAll_23 : decode cX9_toldByAll 23 = .ok (.invokevirtual 213, 3) := by decide +kernel
theorem dX9_toldByAll_26 : decode cX9_toldByAll 26 = .ok (.goto 4, 3) := by decide +kernel
theorem dX9_toldByAll_29 : decode cX9_toldByAll 29 = .ok (.iconst 0, 1) := by decide +kernel
theorem dX9_toldByAll_30 : decode cX9_toldByAll 30 = .ok (.ior, 1) := by decide +kernel
theorem dX9_toldByAll_31 : decode cX9_toldByAll 31 = .ok (.istore_n 2, 1) := by decide +kernel
theorem dX9_toldByAll_32 : decode cX9_toldByAll 32 = .ok (.iinc 3 1, 3) := by decide +kernel
theorem dX9_toldByAll_35 : decode cX9_toldByAll 35 = .ok (.goto (-31), 3) := by decide +kernel
theorem dX9_toldByAll_38 : decode cX9_toldByAll 38 = .ok (.iload_n 2, 1) := by decide +kernel
theorem dX9_toldByAll_39 : decode cX9_toldByAll 39 = .ok (.ireturn, 1) := by decide +kernel
def fX9_toldByAll_30 (k4 : Nat → Int32 → Int32 → Int32 → gz_H → Option (Int32 × gz_H)) (a0 : Nat) (x1 : Int32) (x3 : Int32) (w0 : Int32) (w1 : Int32) (h : gz_H) : Option (Int32 × gz_H) :=
    k4 a0 x1 (w0 ||| w1) (x3 + 1) h
set_option maxRecDepth 100000 in
set_option maxHeartbeats 1000000 in
theorem sX9_toldByAll_30 {G : gz_G} {d l0 s0 : Nat} {Q : Int32 → gz_H → Prop} {k4 : Nat → Int32 → Int32 → Int32 → gz_H → Option (Int32 × gz_H)} (hk4 : ∀ (a0 : Nat) (x1 : Int32) (x2 : Int32) (x3 : Int32) (h : gz_H), gz_g (k4 a0 x1 x2 x3 h) Q → gz_Ok G mX9_toldByAll (d + 4, l0, s0, 0, 0) 4 [.ref a0, .int x1, .int x2, .int x3] [] h (gz_qi Q)) (a0 : Nat) (x1 : Int32) (x3 : Int32) (w0 : Int32) (w1 : Int32) (h : gz_H) (hf : gz_g (fX9_toldByAll_30 k4 a0 x1 x3 w0 w1 h) Q) : gz_Ok G mX9_toldByAll (d + 4, l0, s0, 0, 0) 30 [.ref a0, .int x1, .retAddr 0, .int x3] [.int w1, .int w0] h (gz_qi Q) := by
  unfold fX9_toldByAll_30 at hf
  refine gz_ior (pc := 30) dX9_toldByAll_30 ?_
  refine gz_istore_n (lv := [.ref a0, .int x1, .int (w0 ||| w1), .int x3]) (pc := 31) dX9_toldByAll_31 rfl (by decide) rfl ?_
  refine gz_iinc (v := x3 + 1) (lv := [.ref a0, .int x1, .int (w0 ||| w1), .int (x3 + 1)]) (pc := 32) dX9_toldByAll_32 rfl rfl (by decide) rfl ?_
  refine gz_goto (tgt := 4) (pc := 35) dX9_toldByAll_35 rfl ?_
  exact hk4 a0 x1 (w0 ||| w1) (x3 + 1) h hf
def fX9_toldByAll_4  : Nat → Nat → Int32 → Int32 → Int32 → gz_H → Option (Int32 × gz_H)
  | 0, _, _, _, _, _ => none
  | n + 1, a0, x1, x2, x3, h =>
    gz_ck (gz_sh h a0 9 29) <|
    if (h.2.1 a0 3) ≤ x3 then (
     some (x2, h)
    ) else (
     gz_b2 (fX9_has x1 x3 h) fun y_4 h_3 =>
     if y_4 = 0 then (
      fX9_toldByAll_30 (fun z0 z1 z2 z3 zh => fX9_toldByAll_4 n z0 z1 z2 z3 zh) a0 x1 x3 x2 (0 : Int32) h_3
     ) else (
      gz_ck (gz_sh h_3 a0 9 29) <|
      gz_b2 (fX9_toldBy a0 x3 h_3) fun y_7 h_6 =>
      fX9_toldByAll_30 (fun z0 z1 z2 z3 zh => fX9_toldByAll_4 n z0 z1 z2 z3 zh) a0 x1 x3 x2 y_7 h_6
     )
    )
set_option maxRecDepth 100000 in
set_option maxHeartbeats 1000000 in
theorem sX9_toldByAll_4 {G : gz_G} {d l0 s0 : Nat} {Q : Int32 → gz_H → Prop} : ∀ (n : Nat) (a0 : Nat) (x1 : Int32) (x2 : Int32) (x3 : Int32) (h : gz_H), gz_g (fX9_toldByAll_4  n a0 x1 x2 x3 h) Q → gz_Ok G mX9_toldByAll (d + 4, l0, s0, 0, 0) 4 [.ref a0, .int x1, .int x2, .int x3] [] h (gz_qi Q) := by
  intro n
  induction n with
  | zero => intro a0 x1 x2 x3 h hf; exact False.elim hf
  | succ n ih =>
    intro a0 x1 x2 x3 h hf
    rw [fX9_toldByAll_4] at hf
    refine gz_iload_n (pc := 4) dX9_toldByAll_4 rfl rfl ?_
    refine gz_aload_n (pc := 5) dX9_toldByAll_5 rfl rfl ?_
    refine gz_gk hf (fun c_1 hf => ?_)
    refine gz_getI (pc := 6) dX9_toldByAll_6 fl_RX9_158 rfl (gz_shs c_1) ?_
    refine gz_icmp_ge (tgt := 38) (pc := 9) dX9_toldByAll_9 rfl (fun c_2 => ?_) (fun c_2 => ?_)
    · have hf := gz_gT hf c_2
      refine gz_iload_n (pc := 38) dX9_toldByAll_38 rfl rfl ?_
      exact gz_irt (pc := 39) dX9_toldByAll_39 rfl rfl hf
    · have hf := gz_gF hf c_2
      refine gz_iload_n (pc := 12) dX9_toldByAll_12 rfl rfl ?_
      refine gz_iload_n (pc := 13) dX9_toldByAll_13 rfl rfl ?_
      refine gz_iload_n (pc := 14) dX9_toldByAll_14 rfl rfl ?_
      refine gz_cSI (av := [.int x1, .int x3]) (st := [.int x2]) (pc := 15) dX9_toldByAll_15 kl_RX9_142 rfl rfl (Nat.le_of_ble_eq_true rfl) (by show d + 3 + 0 + 1 ≤ d + 4; omega) (sX9_has (d := d + 3) (gz_gc hf)) (fun y_4 h_3 hf => ?_)
      refine gz_if_eq (tgt := 29) (pc := 18) dX9_toldByAll_18 rfl (fun c_5 => ?_) (fun c_5 => ?_)
      · have hf := gz_gT hf c_5
        refine gz_iconst (v := (0 : Int32)) (pc := 29) dX9_toldByAll_29 rfl ?_
        refine gz_fg (lv := [.ref a0, .int x1, .retAddr 0, .int x3]) ⟨Or.inr rfl, ⟨Or.inr rfl, ⟨Or.inl rfl, ⟨Or.inr rfl, trivial⟩⟩⟩⟩ ?_
        exact sX9_toldByAll_30 ih a0 x1 x3 x2 (0 : Int32) h_3 hf
      · have hf := gz_gF hf c_5
        refine gz_aload_n (pc := 21) dX9_toldByAll_21 rfl rfl ?_
        refine gz_iload_n (pc := 22) dX9_toldByAll_22 rfl rfl ?_
        refine gz_gk hf (fun c_8 hf => ?_)
        refine gz_cVI (av := [.int x3]) (st := [.int x2]) (pc := 23) dX9_toldByAll_23 kl_RX9_213 rfl (gz_shs c_8) rfl rfl (Nat.le_of_ble_eq_true rfl) (by show d + 0 + 3 + 1 ≤ d + 4; omega) (sX9_toldBy (d := d + 0) (gz_gc hf)) (fun y_7 h_6 hf => ?_)
        refine gz_goto (tgt := 30) (pc := 26) dX9_toldByAll_26 rfl ?_
        refine gz_fg (lv := [.ref a0, .int x1, .retAddr 0, .int x3]) ⟨Or.inr rfl, ⟨Or.inr rfl, ⟨Or.inl rfl, ⟨Or.inr rfl, trivial⟩⟩⟩⟩ ?_
        exact sX9_toldByAll_30 ih a0 x1 x3 x2 y_7 h_6 hf
def fX9_toldByAll_0  (a0 : Nat) (x1 : Int32) (h : gz_H) : Option (Int32 × gz_H) :=
    fX9_toldByAll_4 gz_fu a0 x1 (0 : Int32) (0 : Int32) h
set_option maxRecDepth 100000 in
set_option maxHeartbeats 1000000 in
theorem sX9_toldByAll_0 {G : gz_G} {d l0 s0 : Nat} {Q : Int32 → gz_H → Prop} (a0 : Nat) (x1 : Int32) (h : gz_H) (hf : gz_g (fX9_toldByAll_0  a0 x1 h) Q) : gz_Ok G mX9_toldByAll (d + 4, l0, s0, 0, 0) 0 [.ref a0, .int x1, .retAddr 0, .retAddr 0] [] h (gz_qi Q) := by
  unfold fX9_toldByAll_0 at hf
  refine gz_iconst (v := (0 : Int32)) (pc := 0) dX9_toldByAll_0 rfl ?_
  refine gz_istore_n (lv := [.ref a0, .int x1, .int (0 : Int32), .retAddr 0]) (pc := 1) dX9_toldByAll_1 rfl (by decide) rfl ?_
  refine gz_iconst (v := (0 : Int32)) (pc := 2) dX9_toldByAll_2 rfl ?_
  refine gz_istore_n (lv := [.ref a0, .int x1, .int (0 : Int32), .int (0 : Int32)]) (pc := 3) dX9_toldByAll_3 rfl (by decide) rfl ?_
  exact sX9_toldByAll_4 gz_fu a0 x1 (0 : Int32) (0 : Int32) h hf
def fX9_toldByAll (a0 : Nat) (x1 : Int32) (h : gz_H) : Option (Int32 × gz_H) := fX9_toldByAll_0 a0 x1 h
theorem sX9_toldByAll {G : gz_G} {d : Nat} {a0 : Nat} {x1 : Int32} {h : gz_H} {Q : Int32 → gz_H → Prop} (hf : gz_g (fX9_toldByAll a0 x1 h) Q) : gz_Cl G mX9_toldByAll (d + 4) 0 0 [.ref a0, .int x1] h (gz_qi Q) := gz_cl_of (lo := [.ref a0, .int x1, .retAddr 0, .retAddr 0]) (by decide) rfl rfl (Nat.le_of_ble_eq_true rfl) (sX9_toldByAll_0 a0 x1 h hf)
theorem dX9_told_0 : decode cX9_told 0 = .ok (.iload_n 1, 1) := by decide +kernel
theorem dX9_told_1 : decode cX9_told 1 = .ok (.i2l, 1) := by decide +kernel
theorem dX9_told_2 : decode cX9_told 2 = .ok (.lconst 0, 1) := by decide +kernel
theorem dX9_told_3 : decode cX9_told 3 = .ok (.iconst 1, 1) := by decide +kernel
theorem dX9_told_4 : decode cX9_told 4 = .ok (.aload_n 0, 1) := by decide +kernel
theorem dX9_told_5 : decode cX9_told 5 = .ok (.getfield 158, 3) := by decide +kernel
theorem dX9_told_8 : decode cX9_told 8 = .ok (.ishl, 1) := by decide +kernel
theorem dX9_told_9 : decode cX9_told 9 = .ok (.iconst 1, 1) := by decide +kernel
theorem dX9_told_10 : decode cX9_told 10 = .ok (.isub, 1) := by decide +kernel
theorem dX9_told_11 : decode cX9_told 11 = .ok (.i2l, 1) := by decide +kernel
theorem dX9_told_12 : decode cX9_told 12 = .ok (.invokestatic 74, 3) := by decide +kernel
theorem dX9_told_15 : decode cX9_told 15 = .ok (.ifCond .eq 11, 3) := by decide +kernel
theorem dX9_told_18 : decode cX9_told 18 = .ok (.aload_n 0, 1) := by decide +kernel
theorem dX9_told_19 : decode cX9_told 19 = .ok (.iload_n 1, 1) := by decide +kernel
theorem dX9_told_20 : decode cX9_told 20 = .ok (.invokevirtual 248, 3) := by decide +kernel
theorem dX9_told_23 : decode cX9_told 23 = .ok (.goto 4, 3) := by decide +kernel
theorem dX9_told_26 : decode cX9_told 26 = .ok (.iconst (-1), 1) := by decide +kernel
theorem dX9_told_27 : decode cX9_told 27 = .ok (.ireturn, 1) := by decide +kernel
def fX9_told_0  (a0 : Nat) (x1 : Int32) (h : gz_H) : Option (Int32 × gz_H) :=
    gz_ck (gz_sh h a0 9 29) <|
    gz_b2 (fX9_in x1.toInt64 (0 : Int64) ((((1 : Int32) <<< ((h.2.1 a0 3) &&& 31)) - (1 : Int32)).toInt64) h) fun y_3 h_2 =>
    if y_3 = 0 then (
     some ((-1 : Int32), h_2)
    ) else (
     gz_ck (gz_sh h_2 a0 9 29) <|
     gz_b2 (fX9_toldByAll a0 x1 h_2) fun y_6 h_5 =>
     some (y_6, h_5)
    )
set_option maxRecDepth 100000 in
set_option maxHeartbeats 1000000 in
theorem sX9_told_0 {G : gz_G} {d l0 s0 : Nat} {Q : Int32 → gz_H → Prop} (a0 : Nat) (x1 : Int32) (h : gz_H) (hf : gz_g (fX9_told_0  a0 x1 h) Q) : gz_Ok G mX9_told (d + 5, l0, s0, 0, 0) 0 [.ref a0, .int x1] [] h (gz_qi Q) := by
  unfold fX9_told_0 at hf
  refine gz_iload_n (pc := 0) dX9_told_0 rfl rfl ?_
  refine gz_i2l (pc := 1) dX9_told_1 ?_
  refine gz_lconst (v := (0 : Int64)) (pc := 2) dX9_told_2 rfl ?_
  refine gz_iconst (v := (1 : Int32)) (pc := 3) dX9_told_3 rfl ?_
  refine gz_aload_n (pc := 4) dX9_told_4 rfl rfl ?_
  refine gz_gk hf (fun c_1 hf => ?_)
  refine gz_getI (pc := 5) dX9_told_5 fl_RX9_158 rfl (gz_shs c_1) ?_
  refine gz_ishl (pc := 8) dX9_told_8 ?_
  refine gz_iconst (v := (1 : Int32)) (pc := 9) dX9_told_9 rfl ?_
  refine gz_isub (pc := 10) dX9_told_10 ?_
  refine gz_i2l (pc := 11) dX9_told_11 ?_
  refine gz_cSI (av := [.long x1.toInt64, .long (0 : Int64), .long ((((1 : Int32) <<< ((h.2.1 a0 3) &&& 31)) - (1 : Int32)).toInt64)]) (st := []) (pc := 12) dX9_told_12 kl_RX9_74 rfl rfl (Nat.le_of_ble_eq_true rfl) (by show d + 4 + 0 + 1 ≤ d + 5; omega) (sX9_in (d := d + 4) (gz_gc hf)) (fun y_3 h_2 hf => ?_)
  refine gz_if_eq (tgt := 26) (pc := 15) dX9_told_15 rfl (fun c_4 => ?_) (fun c_4 => ?_)
  · have hf := gz_gT hf c_4
    refine gz_iconst (v := (-1 : Int32)) (pc := 26) dX9_told_26 rfl ?_
    exact gz_irt (pc := 27) dX9_told_27 rfl rfl hf
  · have hf := gz_gF hf c_4
    refine gz_aload_n (pc := 18) dX9_told_18 rfl rfl ?_
    refine gz_iload_n (pc := 19) dX9_told_19 rfl rfl ?_
    refine gz_gk hf (fun c_7 hf => ?_)
    refine gz_cVI (av := [.int x1]) (st := []) (pc := 20) dX9_told_20 kl_RX9_248 rfl (gz_shs c_7) rfl rfl (Nat.le_of_ble_eq_true rfl) (by show d + 0 + 4 + 1 ≤ d + 5; omega) (sX9_toldByAll (d := d + 0) (gz_gc hf)) (fun y_6 h_5 hf => ?_)
    refine gz_goto (tgt := 27) (pc := 23) dX9_told_23 rfl ?_
    exact gz_irt (pc := 27) dX9_told_27 rfl rfl hf
def fX9_told (a0 : Nat) (x1 : Int32) (h : gz_H) : Option (Int32 × gz_H) := fX9_told_0 a0 x1 h
theorem sX9_told {G : gz_G} {d : Nat} {a0 : Nat} {x1 : Int32} {h : gz_H} {Q : Int32 → gz_H → Prop} (hf : gz_g (fX9_told a0 x1 h) Q) : gz_Cl G mX9_told (d + 5) 0 0 [.ref a0, .int x1] h (gz_qi Q) := gz_cl_of (lo := [.ref a0, .int x1]) (by decide) rfl rfl (Nat.le_of_ble_eq_true rfl) (sX9_told_0 a0 x1 h hf)
theorem dX9_holders_0 : decode cX9_holders 0 = .ok (.aload_n 0, 1) := by decide +kernel
theorem dX9_holders_1 : decode cX9_holders 1 = .ok (.iload_n 1, 1) := by decide +kernel
theorem dX9_holders_2 : decode cX9_holders 2 = .ok (.invokevirtual 219, 3) := by decide +kernel
theorem dX9_holders_5 : decode cX9_holders 5 = .ok (.ifCond .ne 5, 3) := by decide +kernel
theorem dX9_holders_8 : decode cX9_holders 8 = .ok (.iconst (-1), 1) := by decide +kernel
theorem dX9_holders_9 : decode cX9_holders 9 = .ok (.ireturn, 1) := by decide +kernel
theorem dX9_holders_10 : decode cX9_holders 10 = .ok (.iconst 0, 1) := by decide +kernel
theorem dX9_holders_11 : decode cX9_holders 11 = .ok (.istore_n 2, 1) := by decide +kernel
theorem dX9_holders_12 : decode cX9_holders 12 = .ok (.aload_n 0, 1) := by decide +kernel
theorem dX9_holders_13 : decode cX9_holders 13 = .ok (.iconst 0, 1) := by decide +kernel
theorem dX9_holders_14 : decode cX9_holders 14 = .ok (.putfield 69, 3) := by decide +kernel
theorem dX9_holders_17 : decode cX9_holders 17 = .ok (.iconst 0, 1) := by decide +kernel
theorem dX9_holders_18 : decode cX9_holders 18 = .ok (.istore_n 3, 1) := by decide +kernel
theorem dX9_holders_19 : decode cX9_holders 19 = .ok (.iload_n 3, 1) := by decide +kernel
theorem dX9_holders_20 : decode cX9_holders 20 = .ok (.aload_n 0, 1) := by decide +kernel
theorem dX9_holders_21 : decode cX9_holders 21 = .ok (.getfield 158, 3) := by decide +kernel
theorem dX9_holders_24 : decode cX9_holders 24 = .ok (.if_icmp .ge 59, 3) := by decide +kernel
theorem dX9_holders_27 : decode cX9_holders 27 = .ok (.iload_n 2, 1) := by decide +kernel
theorem dX9_holders_28 : decode cX9_holders 28 = .ok (.aload_n 0, 1) := by decide +kernel
theorem dX9_holders_29 : decode cX9_holders 29 = .ok (.iload_n 3, 1) := by decide +kernel
theorem dX9_holders_30 : decode cX9_holders 30 = .ok (.invokevirtual 187, 3) := by decide +kernel
theorem dX9_holders_33 : decode cX9_holders 33 = .ok (.iload_n 1, 1) := by decide +kernel
theorem dX9_holders_34 : decode cX9_holders 34 = .ok (.invokestatic 142, 3) := by decide +kernel
theorem dX9_holders_37 : decode cX9_holders 37 = .ok (.ifCond .eq 9, 3) := by decide +kernel
theorem dX9_holders_40 : decode cX9_holders 40 = .ok (.iconst 1, 1) := by decide +kernel
theorem dX9_holders_41 : decode cX9_holders 41 = .ok (.iload_n 3, 1) := by decide +kernel
theorem dX9_holders_42 : decode cX9_holders 42 = .ok (.ishl, 1) := by decide +kernel
theorem dX9_holders_43 : decode cX9_holders 43 = .ok (.goto 4, 3) := by decide +kernel
theorem dX9_holders_46 : decode cX9_holders 46 = .ok (.iconst 0, 1) := by decide +kernel
theorem dX9_holders_47 : decode cX9_holders 47 = .ok (.ior, 1) := by decide +kernel
theorem dX9_holders_48 : decode cX9_holders 48 = .ok (.istore_n 2, 1) := by decide +kernel
theorem dX9_holders_49 : decode cX9_holders 49 = .ok (.aload_n 0, 1) := by decide +kernel
theorem dX9_holders_50 : decode cX9_holders 50 = .ok (.dup, 1) := by decide +kernel
theorem dX9_holders_51 : decode cX9_holders 51 = .ok (.getfield 69, 3) := by decide +kernel
theorem dX9_holders_54 : decode cX9_holders 54 = .ok (.aload_n 0, 1) := by decide +kernel
theorem dX9_holders_55 : decode cX9_holders 55 = .ok (.iload_n 3, 1) := by decide +kernel
theorem dX9_holders_56 : decode cX9_holders 56 = .ok (.invokevirtual 213, 3) := by decide +kernel
theorem dX9_holders_59 : decode cX9_holders 59 = .ok (.iload_n 1, 1) := by decide +kernel
theorem dX9_holders_60 : decode cX9_holders 60 = .ok (.invokestatic 142, 3) := by decide +kernel
theorem dX9_holders_63 : decode cX9_holders 63 = .ok (.ifCond .eq 9, 3) := by decide +kernel
theorem dX9_holders_66 : decode cX9_holders 66 = .ok (.iconst 1, 1) := by decide +kernel
theorem dX9_holders_67 : decode cX9_holders 67 = .ok (.iload_n 3, 1) := by decide +kernel
theorem dX9_holders_68 : decode cX9_holders 68 = .ok (.ishl, 1) := by decide +kernel
theorem dX9_holders_69 : decode cX9_holders 69 = .ok (.goto 4, 3) := by decide +kernel
theorem dX9_holders_72 : decode cX9_holders 72 = .ok (.iconst 0, 1) := by decide +kernel
theorem dX9_holders_73 : decode cX9_holders 73 = .ok (.ior, 1) := by decide +kernel
theorem dX9_holders_74 : decode cX9_holders 74 = .ok (.putfield 69, 3) := by decide +kernel
theorem dX9_holders_77 : decode cX9_holders 77 = .ok (.iinc 3 1, 3) := by decide +kernel
theorem dX9_holders_80 : decode cX9_holders 80 = .ok (.goto (-61), 3) := by decide +kernel
theorem dX9_holders_83 : decode cX9_holders 83 = .ok (.iload_n 2, 1) := by decide +kernel
theorem dX9_holders_84 : decode cX9_holders 84 = .ok (.ireturn, 1) := by decide +kernel
def fX9_holders_73 (k19 : Nat → Int32 → Int32 → Int32 → gz_H → Option (Int32 × gz_H)) (a0 : Nat) (x1 : Int32) (x2 : Int32) (x3 : Int32) (b0 : Nat) (w1 : Int32) (w2 : Int32) (h : gz_H) : Option (Int32 × gz_H) :=
    gz_ck (gz_sh h b0 9 29) <|
    gz_lt (uI h b0 11 (w1 ||| w2)) fun h_2 =>
    k19 a0 x1 x2 (x3 + 1) h_2
set_option maxRecDepth 100000 in
set_option maxHeartbeats 1000000 in
theorem sX9_holders_73 {G : gz_G} {d l0 s0 : Nat} {Q : Int32 → gz_H → Prop} {k19 : Nat → Int32 → Int32 → Int32 → gz_H → Option (Int32 × gz_H)} (hk19 : ∀ (a0 : Nat) (x1 : Int32) (x2 : Int32) (x3 : Int32) (h : gz_H), gz_g (k19 a0 x1 x2 x3 h) Q → gz_Ok G mX9_holders (d + 4, l0, s0, 0, 0) 19 [.ref a0, .int x1, .int x2, .int x3] [] h (gz_qi Q)) (a0 : Nat) (x1 : Int32) (x2 : Int32) (x3 : Int32) (b0 : Nat) (w1 : Int32) (w2 : Int32) (h : gz_H) (hf : gz_g (fX9_holders_73 k19 a0 x1 x2 x3 b0 w1 w2 h) Q) : gz_Ok G mX9_holders (d + 4, l0, s0, 0, 0) 73 [.ref a0, .int x1, .int x2, .int x3] [.int w2, .int w1, .ref b0] h (gz_qi Q) := by
  unfold fX9_holders_73 at hf
  refine gz_ior (pc := 73) dX9_holders_73 ?_
  refine gz_gk hf (fun c_1 hf => ?_)
  refine gz_putI (pc := 74) dX9_holders_74 fw_X9_holders_69 rfl rfl rfl (gz_shs c_1) ?_
  refine gz_nmH (fun h_2 eh_2 => ?_)
  have hf := gz_gl eh_2 hf
  refine gz_iinc (v := x3 + 1) (lv := [.ref a0, .int x1, .int x2, .int (x3 + 1)]) (pc := 77) dX9_holders_77 rfl rfl (by decide) rfl ?_
  refine gz_goto (tgt := 19) (pc := 80) dX9_holders_80 rfl ?_
  exact hk19 a0 x1 x2 (x3 + 1) h_2 hf
def fX9_holders_47 (k19 : Nat → Int32 → Int32 → Int32 → gz_H → Option (Int32 × gz_H)) (a0 : Nat) (x1 : Int32) (x3 : Int32) (w0 : Int32) (w1 : Int32) (h : gz_H) : Option (Int32 × gz_H) :=
    gz_ck (gz_sh h a0 9 29) <|
    gz_b2 (fX9_toldBy a0 x3 h) fun y_3 h_2 =>
    gz_b2 (fX9_has y_3 x1 h_2) fun y_5 h_4 =>
    if y_5 = 0 then (
     fX9_holders_73 k19 a0 x1 (w0 ||| w1) x3 a0 (h.2.1 a0 11) (0 : Int32) h_4
    ) else (
     fX9_holders_73 k19 a0 x1 (w0 ||| w1) x3 a0 (h.2.1 a0 11) ((1 : Int32) <<< (x3 &&& 31)) h_4
    )
set_option maxRecDepth 100000 in
set_option maxHeartbeats 1000000 in
theorem sX9_holders_47 {G : gz_G} {d l0 s0 : Nat} {Q : Int32 → gz_H → Prop} {k19 : Nat → Int32 → Int32 → Int32 → gz_H → Option (Int32 × gz_H)} (hk19 : ∀ (a0 : Nat) (x1 : Int32) (x2 : Int32) (x3 : Int32) (h : gz_H), gz_g (k19 a0 x1 x2 x3 h) Q → gz_Ok G mX9_holders (d + 4, l0, s0, 0, 0) 19 [.ref a0, .int x1, .int x2, .int x3] [] h (gz_qi Q)) (a0 : Nat) (x1 : Int32) (x3 : Int32) (w0 : Int32) (w1 : Int32) (h : gz_H) (hf : gz_g (fX9_holders_47 k19 a0 x1 x3 w0 w1 h) Q) : gz_Ok G mX9_holders (d + 4, l0, s0, 0, 0) 47 [.ref a0, .int x1, .retAddr 0, .int x3] [.int w1, .int w0] h (gz_qi Q) := by
  unfold fX9_holders_47 at hf
  refine gz_ior (pc := 47) dX9_holders_47 ?_
  refine gz_istore_n (lv := [.ref a0, .int x1, .int (w0 ||| w1), .int x3]) (pc := 48) dX9_holders_48 rfl (by decide) rfl ?_
  refine gz_aload_n (pc := 49) dX9_holders_49 rfl rfl ?_
  refine gz_dup (pc := 50) dX9_holders_50 rfl ?_
  refine gz_gk hf (fun c_1 hf => ?_)
  refine gz_getI (pc := 51) dX9_holders_51 fl_RX9_69 rfl (gz_shs c_1) ?_
  refine gz_aload_n (pc := 54) dX9_holders_54 rfl rfl ?_
  refine gz_iload_n (pc := 55) dX9_holders_55 rfl rfl ?_
  refine gz_cVI (av := [.int x3]) (st := [.int (h.2.1 a0 11), .ref a0]) (pc := 56) dX9_holders_56 kl_RX9_213 rfl (gz_shs c_1) rfl rfl (Nat.le_of_ble_eq_true rfl) (by show d + 0 + 3 + 1 ≤ d + 4; omega) (sX9_toldBy (d := d + 0) (gz_gc hf)) (fun y_3 h_2 hf => ?_)
  refine gz_iload_n (pc := 59) dX9_holders_59 rfl rfl ?_
  refine gz_cSI (av := [.int y_3, .int x1]) (st := [.int (h.2.1 a0 11), .ref a0]) (pc := 60) dX9_holders_60 kl_RX9_142 rfl rfl (Nat.le_of_ble_eq_true rfl) (by show d + 3 + 0 + 1 ≤ d + 4; omega) (sX9_has (d := d + 3) (gz_gc hf)) (fun y_5 h_4 hf => ?_)
  refine gz_if_eq (tgt := 72) (pc := 63) dX9_holders_63 rfl (fun c_6 => ?_) (fun c_6 => ?_)
  · have hf := gz_gT hf c_6
    refine gz_iconst (v := (0 : Int32)) (pc := 72) dX9_holders_72 rfl ?_
    exact sX9_holders_73 hk19 a0 x1 (w0 ||| w1) x3 a0 (h.2.1 a0 11) (0 : Int32) h_4 hf
  · have hf := gz_gF hf c_6
    refine gz_iconst (v := (1 : Int32)) (pc := 66) dX9_holders_66 rfl ?_
    refine gz_iload_n (pc := 67) dX9_holders_67 rfl rfl ?_
    refine gz_ishl (pc := 68) dX9_holders_68 ?_
    refine gz_goto (tgt := 73) (pc := 69) dX9_holders_69 rfl ?_
    exact sX9_holders_73 hk19 a0 x1 (w0 ||| w1) x3 a0 (h.2.1 a0 11) ((1 : Int32) <<< (x3 &&& 31)) h_4 hf
def fX9_holders_19  : Nat → Nat → Int32 → Int32 → Int32 → gz_H → Option (Int32 × gz_H)
  | 0, _, _, _, _, _ => none
  | n + 1, a0, x1, x2, x3, h =>
    gz_ck (gz_sh h a0 9 29) <|
    if (h.2.1 a0 3) ≤ x3 then (
     some (x2, h)
    ) else (
     gz_b2 (fX9_heldBy a0 x3 h) fun y_4 h_3 =>
     gz_b2 (fX9_has y_4 x1 h_3) fun y_6 h_5 =>
     if y_6 = 0 then (
      fX9_holders_47 (fun z0 z1 z2 z3 zh => fX9_holders_19 n z0 z1 z2 z3 zh) a0 x1 x3 x2 (0 : Int32) h_5
     ) else (
      fX9_holders_47 (fun z0 z1 z2 z3 zh => fX9_holders_19 n z0 z1 z2 z3 zh) a0 x1 x3 x2 ((1 : Int32) <<< (x3 &&& 31)) h_5
     )
    )
set_option maxRecDepth 100000 in
set_option maxHeartbeats 1000000 in
theorem sX9_holders_19 {G : gz_G} {d l0 s0 : Nat} {Q : Int32 → gz_H → Prop} : ∀ (n : Nat) (a0 : Nat) (x1 : Int32) (x2 : Int32) (x3 : Int32) (h : gz_H), gz_g (fX9_holders_19  n a0 x1 x2 x3 h) Q → gz_Ok G mX9_holders (d + 4, l0, s0, 0, 0) 19 [.ref a0, .int x1, .int x2, .int x3] [] h (gz_qi Q) := by
  intro n
  induction n with
  | zero => intro a0 x1 x2 x3 h hf; exact False.elim hf
  | succ n ih =>
    intro a0 x1 x2 x3 h hf
    rw [fX9_holders_19] at hf
    refine gz_iload_n (pc := 19) dX9_holders_19 rfl rfl ?_
    refine gz_aload_n (pc := 20) dX9_holders_20 rfl rfl ?_
    refine gz_gk hf (fun c_1 hf => ?_)
    refine gz_getI (pc := 21) dX9_holders_21 fl_RX9_158 rfl (gz_shs c_1) ?_
    refine gz_icmp_ge (tgt := 83) (pc := 24) dX9_holders_24 rfl (fun c_2 => ?_) (fun c_2 => ?_)
    · have hf := gz_gT hf c_2
      refine gz_iload_n (pc := 83) dX9_holders_83 rfl rfl ?_
      exact gz_irt (pc := 84) dX9_holders_84 rfl rfl hf
    · have hf := gz_gF hf c_2
      refine gz_iload_n (pc := 27) dX9_holders_27 rfl rfl ?_
      refine gz_aload_n (pc := 28) dX9_holders_28 rfl rfl ?_
      refine gz_iload_n (pc := 29) dX9_holders_29 rfl rfl ?_
      refine gz_cVI (av := [.int x3]) (st := [.int x2]) (pc := 30) dX9_holders_30 kl_RX9_187 rfl (gz_shs c_1) rfl rfl (Nat.le_of_ble_eq_true rfl) (by show d + 2 + 1 + 1 ≤ d + 4; omega) (sX9_heldBy (d := d + 2) (gz_gc hf)) (fun y_4 h_3 hf => ?_)
      refine gz_iload_n (pc := 33) dX9_holders_33 rfl rfl ?_
      refine gz_cSI (av := [.int y_4, .int x1]) (st := [.int x2]) (pc := 34) dX9_holders_34 kl_RX9_142 rfl rfl (Nat.le_of_ble_eq_true rfl) (by show d + 3 + 0 + 1 ≤ d + 4; omega) (sX9_has (d := d + 3) (gz_gc hf)) (fun y_6 h_5 hf => ?_)
      refine gz_if_eq (tgt := 46) (pc := 37) dX9_holders_37 rfl (fun c_7 => ?_) (fun c_7 => ?_)
      · have hf := gz_gT hf c_7
        refine gz_iconst (v := (0 : Int32)) (pc := 46) dX9_holders_46 rfl ?_
        refine gz_fg (lv := [.ref a0, .int x1, .retAddr 0, .int x3]) ⟨Or.inr rfl, ⟨Or.inr rfl, ⟨Or.inl rfl, ⟨Or.inr rfl, trivial⟩⟩⟩⟩ ?_
        exact sX9_holders_47 ih a0 x1 x3 x2 (0 : Int32) h_5 hf
      · have hf := gz_gF hf c_7
        refine gz_iconst (v := (1 : Int32)) (pc := 40) dX9_holders_40 rfl ?_
        refine gz_iload_n (pc := 41) dX9_holders_41 rfl rfl ?_
        refine gz_ishl (pc := 42) dX9_holders_42 ?_
        refine gz_goto (tgt := 47) (pc := 43) dX9_holders_43 rfl ?_
        refine gz_fg (lv := [.ref a0, .int x1, .retAddr 0, .int x3]) ⟨Or.inr rfl, ⟨Or.inr rfl, ⟨Or.inl rfl, ⟨Or.inr rfl, trivial⟩⟩⟩⟩ ?_
        exact sX9_holders_47 ih a0 x1 x3 x2 ((1 : Int32) <<< (x3 &&& 31)) h_5 hf
def fX9_holders_0  (a0 : Nat) (x1 : Int32) (h : gz_H) : Option (Int32 × gz_H) :=
    gz_ck (gz_sh h a0 9 29) <|
    gz_b2 (fX9_isFact a0 x1 h) fun y_2 h_1 =>
    if y_2 = 0 then (
     some ((-1 : Int32), h_1)
    ) else (
     gz_ck (gz_sh h_1 a0 9 29) <|
     gz_lt (uI h_1 a0 11 (0 : Int32)) fun h_6 =>
     fX9_holders_19 gz_fu a0 x1 (0 : Int32) (0 : Int32) h_6
    )
set_option maxRecDepth 100000 in
set_option maxHeartbeats 1000000 in
theorem sX9_holders_0 {G : gz_G} {d l0 s0 : Nat} {Q : Int32 → gz_H → Prop} (a0 : Nat) (x1 : Int32) (h : gz_H) (hf : gz_g (fX9_holders_0  a0 x1 h) Q) : gz_Ok G mX9_holders (d + 4, l0, s0, 0, 0) 0 [.ref a0, .int x1, .retAddr 0, .retAddr 0] [] h (gz_qi Q) := by
  unfold fX9_holders_0 at hf
  refine gz_aload_n (pc := 0) dX9_holders_0 rfl rfl ?_
  refine gz_iload_n (pc := 1) dX9_holders_1 rfl rfl ?_
  refine gz_gk hf (fun c_3 hf => ?_)
  refine gz_cVI (av := [.int x1]) (st := []) (pc := 2) dX9_holders_2 kl_RX9_219 rfl (gz_shs c_3) rfl rfl (Nat.le_of_ble_eq_true rfl) (by show d + 2 + 1 + 1 ≤ d + 4; omega) (sX9_isFact (d := d + 2) (gz_gc hf)) (fun y_2 h_1 hf => ?_)
  refine gz_if_ne (tgt := 10) (pc := 5) dX9_holders_5 rfl (fun c_4 => ?_) (fun c_4 => ?_)
  · have hf := gz_gF hf c_4
    refine gz_iconst (v := (0 : Int32)) (pc := 10) dX9_holders_10 rfl ?_
    refine gz_istore_n (lv := [.ref a0, .int x1, .int (0 : Int32), .retAddr 0]) (pc := 11) dX9_holders_11 rfl (by decide) rfl ?_
    refine gz_aload_n (pc := 12) dX9_holders_12 rfl rfl ?_
    refine gz_iconst (v := (0 : Int32)) (pc := 13) dX9_holders_13 rfl ?_
    refine gz_gk hf (fun c_5 hf => ?_)
    refine gz_putI (pc := 14) dX9_holders_14 fw_X9_holders_69 rfl rfl rfl (gz_shs c_5) ?_
    refine gz_nmH (fun h_6 eh_6 => ?_)
    have hf := gz_gl eh_6 hf
    refine gz_iconst (v := (0 : Int32)) (pc := 17) dX9_holders_17 rfl ?_
    refine gz_istore_n (lv := [.ref a0, .int x1, .int (0 : Int32), .int (0 : Int32)]) (pc := 18) dX9_holders_18 rfl (by decide) rfl ?_
    exact sX9_holders_19 gz_fu a0 x1 (0 : Int32) (0 : Int32) h_6 hf
  · have hf := gz_gT hf c_4
    refine gz_iconst (v := (-1 : Int32)) (pc := 8) dX9_holders_8 rfl ?_
    exact gz_irt (pc := 9) dX9_holders_9 rfl rfl hf
def fX9_holders (a0 : Nat) (x1 : Int32) (h : gz_H) : Option (Int32 × gz_H) := fX9_holders_0 a0 x1 h
theorem sX9_holders {G : gz_G} {d : Nat} {a0 : Nat} {x1 : Int32} {h : gz_H} {Q : Int32 → gz_H → Prop} (hf : gz_g (fX9_holders a0 x1 h) Q) : gz_Cl G mX9_holders (d + 4) 0 0 [.ref a0, .int x1] h (gz_qi Q) := gz_cl_of (lo := [.ref a0, .int x1, .retAddr 0, .retAddr 0]) (by decide) rfl rfl (Nat.le_of_ble_eq_true rfl) (sX9_holders_0 a0 x1 h hf)
theorem dX9_firstOf_0 : decode cX9_firstOf 0 = .ok (.aload_n 0, 1) := by decide +kernel
theorem dX9_firstOf_1 : decode cX9_firstOf 1 = .ok (.iload_n 1, 1) := by decide +kernel
theorem dX9_firstOf_2 : decode cX9_firstOf 2 = .ok (.invokestatic 193, 3) := by decide +kernel
theorem dX9_firstOf_5 : decode cX9_firstOf 5 = .ok (.putfield 69, 3) := by decide +kernel
theorem dX9_firstOf_8 : decode cX9_firstOf 8 = .ok (.iconst 0, 1) := by decide +kernel
theorem dX9_firstOf_9 : decode cX9_firstOf 9 = .ok (.istore_n 2, 1) := by decide +kernel
theorem dX9_firstOf_10 : decode cX9_firstOf 10 = .ok (.iload_n 2, 1) := by decide +kernel
theorem dX9_firstOf_11 : decode cX9_firstOf 11 = .ok (.bipush 8, 2) := by decide +kernel
theorem dX9_firstOf_13 : decode cX9_firstOf 13 = .ok (.if_icmp .ge 19, 3) := by decide +kernel
theorem dX9_firstOf_16 : decode cX9_firstOf 16 = .ok (.iload_n 1, 1) := by decide +kernel
theorem dX9_firstOf_17 : decode cX9_firstOf 17 = .ok (.iload_n 2, 1) := by decide +kernel
theorem dX9_firstOf_18 : decode cX9_firstOf 18 = .ok (.invokestatic 142, 3) := by decide +kernel
theorem dX9_firstOf_21 : decode cX9_firstOf 21 = .ok (.ifCond .eq 5, 3) := by decide +kernel
theorem dX9_firstOf_24 : decode cX9_firstOf 24 = .ok (.iload_n 2, 1) := by decide +kernel
theorem dX9_firstOf_25 : decode cX9_firstOf 25 = .ok (.ireturn, 1) := by decide +kernel
theorem dX9_firstOf_26 : decode cX9_firstOf 26 = .ok (.iinc 2 1, 3) := by decide +kernel
theorem dX9_firstOf_29 : decode cX9_firstOf 29 = .ok (.goto (-19), 3) := by decide +kernel
theorem dX9_firstOf_32 : decode cX9_firstOf 32 = .ok (.bipush (-9), 2) := by decide +kernel
theorem dX9_firstOf_34 : decode cX9_firstOf 34 = .ok (.ireturn, 1) := by decide +kernel
def fX9_firstOf_10  : Nat → Int32 → Int32 → gz_H → Option (Int32 × gz_H)
  | 0, _, _, _ => none
  | n + 1, x1, x2, h =>
    if (8 : Int32) ≤ x2 then (
     some ((-9 : Int32), h)
    ) else (
     gz_b2 (fX9_has x1 x2 h) fun y_3 h_2 =>
     if y_3 = 0 then (
      fX9_firstOf_10 n x1 (x2 + 1) h_2
     ) else (
      some (x2, h_2)
     )
    )
set_option maxRecDepth 100000 in
set_option maxHeartbeats 1000000 in
theorem sX9_firstOf_10 {G : gz_G} {d l0 s0 : Nat} {Q : Int32 → gz_H → Prop} : ∀ (n : Nat) (x1 : Int32) (x2 : Int32) (h : gz_H), gz_g (fX9_firstOf_10  n x1 x2 h) Q → gz_Ok G mX9_firstOf (d + 1, l0, s0, 0, 0) 10 [.retAddr 0, .int x1, .int x2] [] h (gz_qi Q) := by
  intro n
  induction n with
  | zero => intro x1 x2 h hf; exact False.elim hf
  | succ n ih =>
    intro x1 x2 h hf
    rw [fX9_firstOf_10] at hf
    refine gz_iload_n (pc := 10) dX9_firstOf_10 rfl rfl ?_
    refine gz_bipush (v := (8 : Int32)) (pc := 11) dX9_firstOf_11 rfl ?_
    refine gz_icmp_ge (tgt := 32) (pc := 13) dX9_firstOf_13 rfl (fun c_1 => ?_) (fun c_1 => ?_)
    · have hf := gz_gT hf c_1
      refine gz_bipush (v := (-9 : Int32)) (pc := 32) dX9_firstOf_32 rfl ?_
      exact gz_irt (pc := 34) dX9_firstOf_34 rfl rfl hf
    · have hf := gz_gF hf c_1
      refine gz_iload_n (pc := 16) dX9_firstOf_16 rfl rfl ?_
      refine gz_iload_n (pc := 17) dX9_firstOf_17 rfl rfl ?_
      refine gz_cSI (av := [.int x1, .int x2]) (st := []) (pc := 18) dX9_firstOf_18 kl_RX9_142 rfl rfl (Nat.le_of_ble_eq_true rfl) (by show d + 0 + 0 + 1 ≤ d + 1; omega) (sX9_has (d := d + 0) (gz_gc hf)) (fun y_3 h_2 hf => ?_)
      refine gz_if_eq (tgt := 26) (pc := 21) dX9_firstOf_21 rfl (fun c_4 => ?_) (fun c_4 => ?_)
      · have hf := gz_gT hf c_4
        refine gz_iinc (v := x2 + 1) (lv := [.retAddr 0, .int x1, .int (x2 + 1)]) (pc := 26) dX9_firstOf_26 rfl rfl (by decide) rfl ?_
        refine gz_goto (tgt := 10) (pc := 29) dX9_firstOf_29 rfl ?_
        exact ih x1 (x2 + 1) h_2 hf
      · have hf := gz_gF hf c_4
        refine gz_iload_n (pc := 24) dX9_firstOf_24 rfl rfl ?_
        exact gz_irt (pc := 25) dX9_firstOf_25 rfl rfl hf
def fX9_firstOf_0  (a0 : Nat) (x1 : Int32) (h : gz_H) : Option (Int32 × gz_H) :=
    gz_b2 (fX9_bits x1 h) fun y_2 h_1 =>
    gz_ck (gz_sh h_1 a0 9 29) <|
    gz_lt (uI h_1 a0 11 y_2) fun h_4 =>
    fX9_firstOf_10 gz_fu x1 (0 : Int32) h_4
set_option maxRecDepth 100000 in
set_option maxHeartbeats 1000000 in
theorem sX9_firstOf_0 {G : gz_G} {d l0 s0 : Nat} {Q : Int32 → gz_H → Prop} (a0 : Nat) (x1 : Int32) (h : gz_H) (hf : gz_g (fX9_firstOf_0  a0 x1 h) Q) : gz_Ok G mX9_firstOf (d + 1, l0, s0, 0, 0) 0 [.ref a0, .int x1, .retAddr 0] [] h (gz_qi Q) := by
  unfold fX9_firstOf_0 at hf
  refine gz_aload_n (pc := 0) dX9_firstOf_0 rfl rfl ?_
  refine gz_iload_n (pc := 1) dX9_firstOf_1 rfl rfl ?_
  refine gz_cSI (av := [.int x1]) (st := [.ref a0]) (pc := 2) dX9_firstOf_2 kl_RX9_193 rfl rfl (Nat.le_of_ble_eq_true rfl) (by show d + 0 + 0 + 1 ≤ d + 1; omega) (sX9_bits (d := d + 0) (gz_gc hf)) (fun y_2 h_1 hf => ?_)
  refine gz_gk hf (fun c_3 hf => ?_)
  refine gz_putI (pc := 5) dX9_firstOf_5 fw_X9_firstOf_69 rfl rfl rfl (gz_shs c_3) ?_
  refine gz_nmH (fun h_4 eh_4 => ?_)
  have hf := gz_gl eh_4 hf
  refine gz_iconst (v := (0 : Int32)) (pc := 8) dX9_firstOf_8 rfl ?_
  refine gz_istore_n (lv := [.ref a0, .int x1, .int (0 : Int32)]) (pc := 9) dX9_firstOf_9 rfl (by decide) rfl ?_
  refine gz_fg (lv := [.retAddr 0, .int x1, .int (0 : Int32)]) ⟨Or.inl rfl, ⟨Or.inr rfl, ⟨Or.inr rfl, trivial⟩⟩⟩ ?_
  exact sX9_firstOf_10 gz_fu x1 (0 : Int32) h_4 hf
def fX9_firstOf (a0 : Nat) (x1 : Int32) (h : gz_H) : Option (Int32 × gz_H) := fX9_firstOf_0 a0 x1 h
theorem sX9_firstOf {G : gz_G} {d : Nat} {a0 : Nat} {x1 : Int32} {h : gz_H} {Q : Int32 → gz_H → Prop} (hf : gz_g (fX9_firstOf a0 x1 h) Q) : gz_Cl G mX9_firstOf (d + 1) 0 0 [.ref a0, .int x1] h (gz_qi Q) := gz_cl_of (lo := [.ref a0, .int x1, .retAddr 0]) (by decide) rfl rfl (Nat.le_of_ble_eq_true rfl) (sX9_firstOf_0 a0 x1 h hf)
theorem dX9_allFacts_0 : decode cX9_allFacts 0 = .ok (.iconst 1, 1) := by decide +kernel
theorem dX9_allFacts_1 : decode cX9_allFacts 1 = .ok (.aload_n 0, 1) := by decide +kernel
theorem dX9_allFacts_2 : decode cX9_allFacts 2 = .ok (.getfield 155, 3) := by decide +kernel
theorem dX9_allFacts_5 : decode cX9_allFacts 5 = .ok (.ishl, 1) := by decide +kernel
theorem dX9_allFacts_6 : decode cX9_allFacts 6 = .ok (.iconst 1, 1) := by decide +kernel
theorem dX9_allFacts_7 : decode cX9_allFacts 7 = .ok (.isub, 1) := by decide +kernel
theorem dX9_allFacts_8 : decode cX9_allFacts 8 = .ok (.ireturn, 1) := by decide +kernel
def fX9_allFacts_0  (a0 : Nat) (h : gz_H) : Option (Int32 × gz_H) :=
    gz_ck (gz_sh h a0 9 29) <|
    some (((1 : Int32) <<< ((h.2.1 a0 1) &&& 31)) - (1 : Int32), h)
set_option maxRecDepth 100000 in
set_option maxHeartbeats 1000000 in
theorem sX9_allFacts_0 {G : gz_G} {d l0 s0 : Nat} {Q : Int32 → gz_H → Prop} (a0 : Nat) (h : gz_H) (hf : gz_g (fX9_allFacts_0  a0 h) Q) : gz_Ok G mX9_allFacts (d + 0, l0, s0, 0, 0) 0 [.ref a0] [] h (gz_qi Q) := by
  unfold fX9_allFacts_0 at hf
  refine gz_iconst (v := (1 : Int32)) (pc := 0) dX9_allFacts_0 rfl ?_
  refine gz_aload_n (pc := 1) dX9_allFacts_1 rfl rfl ?_
  refine gz_gk hf (fun c_1 hf => ?_)
  refine gz_getI (pc := 2) dX9_allFacts_2 fl_RX9_155 rfl (gz_shs c_1) ?_
  refine gz_ishl (pc := 5) dX9_allFacts_5 ?_
  refine gz_iconst (v := (1 : Int32)) (pc := 6) dX9_allFacts_6 rfl ?_
  refine gz_isub (pc := 7) dX9_allFacts_7 ?_
  exact gz_irt (pc := 8) dX9_allFacts_8 rfl rfl hf
def fX9_allFacts (a0 : Nat) (h : gz_H) : Option (Int32 × gz_H) := fX9_allFacts_0 a0 h
theorem sX9_allFacts {G : gz_G} {d : Nat} {a0 : Nat} {h : gz_H} {Q : Int32 → gz_H → Prop} (hf : gz_g (fX9_allFacts a0 h) Q) : gz_Cl G mX9_allFacts (d + 0) 0 0 [.ref a0] h (gz_qi Q) := gz_cl_of (lo := [.ref a0]) (by decide) rfl rfl (Nat.le_of_ble_eq_true rfl) (sX9_allFacts_0 a0 h hf)
theorem dX9_lost_0 : decode cX9_lost 0 = .ok (.aload_n 0, 1) := by decide +kernel
theorem dX9_lost_1 : decode cX9_lost 1 = .ok (.aload_n 0, 1) := by decide +kernel
theorem dX9_lost_2 : decode cX9_lost 2 = .ok (.invokevirtual 251, 3) := by decide +kernel
theorem dX9_lost_5 : decode cX9_lost 5 = .ok (.aload_n 0, 1) := by decide +kernel
theorem dX9_lost_6 : decode cX9_lost 6 = .ok (.invokevirtual 190, 3) := by decide +kernel
theorem dX9_lost_9 : decode cX9_lost 9 = .ok (.iconst (-1), 1) := by decide +kernel
theorem dX9_lost_10 : decode cX9_lost 10 = .ok (.ixor, 1) := by decide +kernel
theorem dX9_lost_11 : decode cX9_lost 11 = .ok (.iand, 1) := by decide +kernel
theorem dX9_lost_12 : decode cX9_lost 12 = .ok (.invokevirtual 254, 3) := by decide +kernel
theorem dX9_lost_15 : decode cX9_lost 15 = .ok (.ireturn, 1) := by decide +kernel
def fX9_lost_0  (a0 : Nat) (h : gz_H) : Option (Int32 × gz_H) :=
    gz_ck (gz_sh h a0 9 29) <|
    gz_b2 (fX9_allFacts a0 h) fun y_2 h_1 =>
    gz_ck (gz_sh h_1 a0 9 29) <|
    gz_b2 (fX9_heldByAll a0 h_1) fun y_5 h_4 =>
    gz_ck (gz_sh h_4 a0 9 29) <|
    gz_b2 (fX9_firstOf a0 (y_2 &&& (y_5 ^^^ (-1 : Int32))) h_4) fun y_8 h_7 =>
    some (y_8, h_7)
set_option maxRecDepth 100000 in
set_option maxHeartbeats 1000000 in
theorem sX9_lost_0 {G : gz_G} {d l0 s0 : Nat} {Q : Int32 → gz_H → Prop} (a0 : Nat) (h : gz_H) (hf : gz_g (fX9_lost_0  a0 h) Q) : gz_Ok G mX9_lost (d + 3, l0, s0, 0, 0) 0 [.ref a0] [] h (gz_qi Q) := by
  unfold fX9_lost_0 at hf
  refine gz_aload_n (pc := 0) dX9_lost_0 rfl rfl ?_
  refine gz_aload_n (pc := 1) dX9_lost_1 rfl rfl ?_
  refine gz_gk hf (fun c_3 hf => ?_)
  refine gz_cVI (av := []) (st := [.ref a0]) (pc := 2) dX9_lost_2 kl_RX9_251 rfl (gz_shs c_3) rfl rfl (Nat.le_of_ble_eq_true rfl) (by show d + 2 + 0 + 1 ≤ d + 3; omega) (sX9_allFacts (d := d + 2) (gz_gc hf)) (fun y_2 h_1 hf => ?_)
  refine gz_aload_n (pc := 5) dX9_lost_5 rfl rfl ?_
  refine gz_gk hf (fun c_6 hf => ?_)
  refine gz_cVI (av := []) (st := [.int y_2, .ref a0]) (pc := 6) dX9_lost_6 kl_RX9_190 rfl (gz_shs c_6) rfl rfl (Nat.le_of_ble_eq_true rfl) (by show d + 0 + 2 + 1 ≤ d + 3; omega) (sX9_heldByAll (d := d + 0) (gz_gc hf)) (fun y_5 h_4 hf => ?_)
  refine gz_iconst (v := (-1 : Int32)) (pc := 9) dX9_lost_9 rfl ?_
  refine gz_ixor (pc := 10) dX9_lost_10 ?_
  refine gz_iand (pc := 11) dX9_lost_11 ?_
  refine gz_gk hf (fun c_9 hf => ?_)
  refine gz_cVI (av := [.int (y_2 &&& (y_5 ^^^ (-1 : Int32)))]) (st := []) (pc := 12) dX9_lost_12 kl_RX9_254 rfl (gz_shs c_9) rfl rfl (Nat.le_of_ble_eq_true rfl) (by show d + 1 + 1 + 1 ≤ d + 3; omega) (sX9_firstOf (d := d + 1) (gz_gc hf)) (fun y_8 h_7 hf => ?_)
  exact gz_irt (pc := 15) dX9_lost_15 rfl rfl hf
def fX9_lost (a0 : Nat) (h : gz_H) : Option (Int32 × gz_H) := fX9_lost_0 a0 h
theorem sX9_lost {G : gz_G} {d : Nat} {a0 : Nat} {h : gz_H} {Q : Int32 → gz_H → Prop} (hf : gz_g (fX9_lost a0 h) Q) : gz_Cl G mX9_lost (d + 3) 0 0 [.ref a0] h (gz_qi Q) := gz_cl_of (lo := [.ref a0]) (by decide) rfl rfl (Nat.le_of_ble_eq_true rfl) (sX9_lost_0 a0 h hf)
theorem dX9_mute_0 : decode cX9_mute 0 = .ok (.aload_n 0, 1) := by decide +kernel
theorem dX9_mute_1 : decode cX9_mute 1 = .ok (.aload_n 0, 1) := by decide +kernel
theorem dX9_mute_2 : decode cX9_mute 2 = .ok (.invokevirtual 190, 3) := by decide +kernel
theorem dX9_mute_5 : decode cX9_mute 5 = .ok (.aload_n 0, 1) := by decide +kernel
theorem dX9_mute_6 : decode cX9_mute 6 = .ok (.iconst 1, 1) := by decide +kernel
theorem dX9_mute_7 : decode cX9_mute 7 = .ok (.aload_n 0, 1) := by decide +kernel
theorem dX9_mute_8 : decode cX9_mute 8 = .ok (.getfield 158, 3) := by decide +kernel
theorem dX9_mute_11 : decode cX9_mute 11 = .ok (.ishl, 1) := by decide +kernel
theorem dX9_mute_12 : decode cX9_mute 12 = .ok (.iconst 1, 1) := by decide +kernel
theorem dX9_mute_13 : decode cX9_mute 13 = .ok (.isub, 1) := by decide +kernel
theorem dX9_mute_14 : decode cX9_mute 14 = .ok (.invokevirtual 248, 3) := by decide +kernel
theorem dX9_mute_17 : decode cX9_mute 17 = .ok (.iconst (-1), 1) := by decide +kernel
theorem dX9_mute_18 : decode cX9_mute 18 = .ok (.ixor, 1) := by decide +kernel
theorem dX9_mute_19 : decode cX9_mute 19 = .ok (.iand, 1) := by decide +kernel
theorem dX9_mute_20 : decode cX9_mute 20 = .ok (.invokevirtual 254, 3) := by decide +kernel
theorem dX9_mute_23 : decode cX9_mute 23 = .ok (.ireturn, 1) := by decide +kernel
def fX9_mute_0  (a0 : Nat) (h : gz_H) : Option (Int32 × gz_H) :=
    gz_ck (gz_sh h a0 9 29) <|
    gz_b2 (fX9_heldByAll a0 h) fun y_2 h_1 =>
    gz_ck (gz_sh h_1 a0 9 29) <|
    gz_b2 (fX9_toldByAll a0 (((1 : Int32) <<< ((h_1.2.1 a0 3) &&& 31)) - (1 : Int32)) h_1) fun y_6 h_5 =>
    gz_ck (gz_sh h_5 a0 9 29) <|
    gz_b2 (fX9_firstOf a0 (y_2 &&& (y_6 ^^^ (-1 : Int32))) h_5) fun y_8 h_7 =>
    some (y_8, h_7)
set_option maxRecDepth 100000 in
set_option maxHeartbeats 1000000 in
theorem sX9_mute_0 {G : gz_G} {d l0 s0 : Nat} {Q : Int32 → gz_H → Prop} (a0 : Nat) (h : gz_H) (hf : gz_g (fX9_mute_0  a0 h) Q) : gz_Ok G mX9_mute (d + 5, l0, s0, 0, 0) 0 [.ref a0] [] h (gz_qi Q) := by
  unfold fX9_mute_0 at hf
  refine gz_aload_n (pc := 0) dX9_mute_0 rfl rfl ?_
  refine gz_aload_n (pc := 1) dX9_mute_1 rfl rfl ?_
  refine gz_gk hf (fun c_3 hf => ?_)
  refine gz_cVI (av := []) (st := [.ref a0]) (pc := 2) dX9_mute_2 kl_RX9_190 rfl (gz_shs c_3) rfl rfl (Nat.le_of_ble_eq_true rfl) (by show d + 2 + 2 + 1 ≤ d + 5; omega) (sX9_heldByAll (d := d + 2) (gz_gc hf)) (fun y_2 h_1 hf => ?_)
  refine gz_aload_n (pc := 5) dX9_mute_5 rfl rfl ?_
  refine gz_iconst (v := (1 : Int32)) (pc := 6) dX9_mute_6 rfl ?_
  refine gz_aload_n (pc := 7) dX9_mute_7 rfl rfl ?_
  refine gz_gk hf (fun c_4 hf => ?_)
  refine gz_getI (pc := 8) dX9_mute_8 fl_RX9_158 rfl (gz_shs c_4) ?_
  refine gz_ishl (pc := 11) dX9_mute_11 ?_
  refine gz_iconst (v := (1 : Int32)) (pc := 12) dX9_mute_12 rfl ?_
  refine gz_isub (pc := 13) dX9_mute_13 ?_
  refine gz_cVI (av := [.int (((1 : Int32) <<< ((h_1.2.1 a0 3) &&& 31)) - (1 : Int32))]) (st := [.int y_2, .ref a0]) (pc := 14) dX9_mute_14 kl_RX9_248 rfl (gz_shs c_4) rfl rfl (Nat.le_of_ble_eq_true rfl) (by show d + 0 + 4 + 1 ≤ d + 5; omega) (sX9_toldByAll (d := d + 0) (gz_gc hf)) (fun y_6 h_5 hf => ?_)
  refine gz_iconst (v := (-1 : Int32)) (pc := 17) dX9_mute_17 rfl ?_
  refine gz_ixor (pc := 18) dX9_mute_18 ?_
  refine gz_iand (pc := 19) dX9_mute_19 ?_
  refine gz_gk hf (fun c_9 hf => ?_)
  refine gz_cVI (av := [.int (y_2 &&& (y_6 ^^^ (-1 : Int32)))]) (st := []) (pc := 20) dX9_mute_20 kl_RX9_254 rfl (gz_shs c_9) rfl rfl (Nat.le_of_ble_eq_true rfl) (by show d + 3 + 1 + 1 ≤ d + 5; omega) (sX9_firstOf (d := d + 3) (gz_gc hf)) (fun y_8 h_7 hf => ?_)
  exact gz_irt (pc := 23) dX9_mute_23 rfl rfl hf
def fX9_mute (a0 : Nat) (h : gz_H) : Option (Int32 × gz_H) := fX9_mute_0 a0 h
theorem sX9_mute {G : gz_G} {d : Nat} {a0 : Nat} {h : gz_H} {Q : Int32 → gz_H → Prop} (hf : gz_g (fX9_mute a0 h) Q) : gz_Cl G mX9_mute (d + 5) 0 0 [.ref a0] h (gz_qi Q) := gz_cl_of (lo := [.ref a0]) (by decide) rfl rfl (Nat.le_of_ble_eq_true rfl) (sX9_mute_0 a0 h hf)
theorem dX9_laySays_0 : decode cX9_laySays 0 = .ok (.iconst 0, 1) := by decide +kernel
theorem dX9_laySays_1 : decode cX9_laySays 1 = .ok (.istore_n 1, 1) := by decide +kernel
theorem dX9_laySays_2 : decode cX9_laySays 2 = .ok (.iload_n 1, 1) := by decide +kernel
theorem dX9_laySays_3 : decode cX9_laySays 3 = .ok (.aload_n 0, 1) := by decide +kernel
theorem dX9_laySays_4 : decode cX9_laySays 4 = .ok (.getfield 158, 3) := by decide +kernel
theorem dX9_laySays_7 : decode cX9_laySays 7 = .ok (.if_icmp .ge 40, 3) := by decide +kernel
theorem dX9_laySays_10 : decode cX9_laySays 10 = .ok (.iconst 0, 1) := by decide +kernel
theorem dX9_laySays_11 : decode cX9_laySays 11 = .ok (.istore_n 2, 1) := by decide +kernel
theorem dX9_laySays_12 : decode cX9_laySays 12 = .ok (.iload_n 2, 1) := by decide +kernel
theorem dX9_laySays_13 : decode cX9_laySays 13 = .ok (.bipush 6, 2) := by decide +kernel
theorem dX9_laySays_15 : decode cX9_laySays 15 = .ok (.if_icmp .ge 26, 3) := by decide +kernel
theorem dX9_laySays_18 : decode cX9_laySays 18 = .ok (.aload_n 0, 1) := by decide +kernel
theorem dX9_laySays_19 : decode cX9_laySays 19 = .ok (.getfield 59, 3) := by decide +kernel
theorem dX9_laySays_22 : decode cX9_laySays 22 = .ok (.bipush 6, 2) := by decide +kernel
theorem dX9_laySays_24 : decode cX9_laySays 24 = .ok (.iload_n 1, 1) := by decide +kernel
theorem dX9_laySays_25 : decode cX9_laySays 25 = .ok (.imul, 1) := by decide +kernel
theorem dX9_laySays_26 : decode cX9_laySays 26 = .ok (.iload_n 2, 1) := by decide +kernel
theorem dX9_laySays_27 : decode cX9_laySays 27 = .ok (.iadd, 1) := by decide +kernel
theorem dX9_laySays_28 : decode cX9_laySays 28 = .ok (.aload_n 0, 1) := by decide +kernel
theorem dX9_laySays_29 : decode cX9_laySays 29 = .ok (.iload_n 1, 1) := by decide +kernel
theorem dX9_laySays_30 : decode cX9_laySays 30 = .ok (.iload_n 2, 1) := by decide +kernel
theorem dX9_laySays_31 : decode cX9_laySays 31 = .ok (.invokevirtual 184, 3) := by decide +kernel
theorem dX9_laySays_34 : decode cX9_laySays 34 = .ok (.iastore, 1) := by decide +kernel
theorem dX9_laySays_35 : decode cX9_laySays 35 = .ok (.iinc 2 1, 3) := by decide +kernel
theorem dX9_laySays_38 : decode cX9_laySays 38 = .ok (.goto (-26), 3) := by decide +kernel
theorem dX9_laySays_41 : decode cX9_laySays 41 = .ok (.iinc 1 1, 3) := by decide +kernel
theorem dX9_laySays_44 : decode cX9_laySays 44 = .ok (.goto (-42), 3) := by decide +kernel
theorem dX9_laySays_47 : decode cX9_laySays 47 = .ok (.return_, 1) := by decide +kernel
def fX9_laySays_12 (k2 : Nat → Int32 → gz_H → Option (Unit × gz_H)) : Nat → Nat → Int32 → Int32 → gz_H → Option (Unit × gz_H)
  | 0, _, _, _, _ => none
  | n + 1, a0, x1, x2, h =>
    if (6 : Int32) ≤ x2 then (
     k2 a0 (x1 + 1) h
    ) else (
     gz_ck (gz_sh h a0 9 29) <|
     gz_br (h.2.2.2 a0 27) fun r_3 =>
     gz_b2 (fX9_tellsAt a0 x1 x2 h) fun y_5 h_4 =>
     gz_ck (gz_inb h_4 r_3 10 (((6 : Int32) * x1) + x2)) <|
     gz_lt (uI h_4 r_3 (((6 : Int32) * x1) + x2).toNatClampNeg y_5) fun h_7 =>
     fX9_laySays_12 k2 n a0 x1 (x2 + 1) h_7
    )
set_option maxRecDepth 100000 in
set_option maxHeartbeats 1000000 in
theorem sX9_laySays_12 {G : gz_G} {d l0 s0 : Nat} {Q : Unit → gz_H → Prop} {k2 : Nat → Int32 → gz_H → Option (Unit × gz_H)} (hk2 : ∀ (a0 : Nat) (x1 : Int32) (h : gz_H), gz_g (k2 a0 x1 h) Q → gz_Ok G mX9_laySays (d + 3, l0, s0, 0, 0) 2 [.ref a0, .int x1, .retAddr 0] [] h (gz_qu Q)) : ∀ (n : Nat) (a0 : Nat) (x1 : Int32) (x2 : Int32) (h : gz_H), gz_g (fX9_laySays_12 k2 n a0 x1 x2 h) Q → gz_Ok G mX9_laySays (d + 3, l0, s0, 0, 0) 12 [.ref a0, .int x1, .int x2] [] h (gz_qu Q) := by
  intro n
  induction n with
  | zero => intro a0 x1 x2 h hf; exact False.elim hf
  | succ n ih =>
    intro a0 x1 x2 h hf
    rw [fX9_laySays_12] at hf
    refine gz_iload_n (pc := 12) dX9_laySays_12 rfl rfl ?_
    refine gz_bipush (v := (6 : Int32)) (pc := 13) dX9_laySays_13 rfl ?_
    refine gz_icmp_ge (tgt := 41) (pc := 15) dX9_laySays_15 rfl (fun c_1 => ?_) (fun c_1 => ?_)
    · have hf := gz_gT hf c_1
      refine gz_iinc (v := x1 + 1) (lv := [.ref a0, .int (x1 + 1), .int x2]) (pc := 41) dX9_laySays_41 rfl rfl (by decide) rfl ?_
      refine gz_goto (tgt := 2) (pc := 44) dX9_laySays_44 rfl ?_
      refine gz_fg (lv := [.ref a0, .int (x1 + 1), .retAddr 0]) ⟨Or.inr rfl, ⟨Or.inr rfl, ⟨Or.inl rfl, trivial⟩⟩⟩ ?_
      exact hk2 a0 (x1 + 1) h hf
    · have hf := gz_gF hf c_1
      refine gz_aload_n (pc := 18) dX9_laySays_18 rfl rfl ?_
      refine gz_gk hf (fun c_2 hf => ?_)
      refine gz_gb hf (fun r_3 er_3 hf => ?_)
      refine gz_getR (pc := 19) dX9_laySays_19 fl_RX9_59 rfl (gz_shs c_2) er_3 ?_
      refine gz_bipush (v := (6 : Int32)) (pc := 22) dX9_laySays_22 rfl ?_
      refine gz_iload_n (pc := 24) dX9_laySays_24 rfl rfl ?_
      refine gz_imul (pc := 25) dX9_laySays_25 ?_
      refine gz_iload_n (pc := 26) dX9_laySays_26 rfl rfl ?_
      refine gz_iadd (pc := 27) dX9_laySays_27 ?_
      refine gz_aload_n (pc := 28) dX9_laySays_28 rfl rfl ?_
      refine gz_iload_n (pc := 29) dX9_laySays_29 rfl rfl ?_
      refine gz_iload_n (pc := 30) dX9_laySays_30 rfl rfl ?_
      refine gz_cVI (av := [.int x1, .int x2]) (st := [.int (((6 : Int32) * x1) + x2), .ref r_3]) (pc := 31) dX9_laySays_31 kl_RX9_184 rfl (gz_shs c_2) rfl rfl (Nat.le_of_ble_eq_true rfl) (by show d + 0 + 2 + 1 ≤ d + 3; omega) (sX9_tellsAt (d := d + 0) (gz_gc hf)) (fun y_5 h_4 hf => ?_)
      refine gz_gk hf (fun c_6 hf => ?_)
      refine gz_iast (pc := 34) dX9_laySays_34 c_6 ?_
      refine gz_nmH (fun h_7 eh_7 => ?_)
      have hf := gz_gl eh_7 hf
      refine gz_iinc (v := x2 + 1) (lv := [.ref a0, .int x1, .int (x2 + 1)]) (pc := 35) dX9_laySays_35 rfl rfl (by decide) rfl ?_
      refine gz_goto (tgt := 12) (pc := 38) dX9_laySays_38 rfl ?_
      exact ih a0 x1 (x2 + 1) h_7 hf
def fX9_laySays_2  : Nat → Nat → Int32 → gz_H → Option (Unit × gz_H)
  | 0, _, _, _ => none
  | n + 1, a0, x1, h =>
    gz_ck (gz_sh h a0 9 29) <|
    if (h.2.1 a0 3) ≤ x1 then (
     some ((), h)
    ) else (
     fX9_laySays_12 (fun z0 z1 zh => fX9_laySays_2 n z0 z1 zh) gz_fu a0 x1 (0 : Int32) h
    )
set_option maxRecDepth 100000 in
set_option maxHeartbeats 1000000 in
theorem sX9_laySays_2 {G : gz_G} {d l0 s0 : Nat} {Q : Unit → gz_H → Prop} : ∀ (n : Nat) (a0 : Nat) (x1 : Int32) (h : gz_H), gz_g (fX9_laySays_2  n a0 x1 h) Q → gz_Ok G mX9_laySays (d + 3, l0, s0, 0, 0) 2 [.ref a0, .int x1, .retAddr 0] [] h (gz_qu Q) := by
  intro n
  induction n with
  | zero => intro a0 x1 h hf; exact False.elim hf
  | succ n ih =>
    intro a0 x1 h hf
    rw [fX9_laySays_2] at hf
    refine gz_iload_n (pc := 2) dX9_laySays_2 rfl rfl ?_
    refine gz_aload_n (pc := 3) dX9_laySays_3 rfl rfl ?_
    refine gz_gk hf (fun c_1 hf => ?_)
    refine gz_getI (pc := 4) dX9_laySays_4 fl_RX9_158 rfl (gz_shs c_1) ?_
    refine gz_icmp_ge (tgt := 47) (pc := 7) dX9_laySays_7 rfl (fun c_2 => ?_) (fun c_2 => ?_)
    · have hf := gz_gT hf c_2
      exact gz_uret (pc := 47) dX9_laySays_47 rfl hf
    · have hf := gz_gF hf c_2
      refine gz_iconst (v := (0 : Int32)) (pc := 10) dX9_laySays_10 rfl ?_
      refine gz_istore_n (lv := [.ref a0, .int x1, .int (0 : Int32)]) (pc := 11) dX9_laySays_11 rfl (by decide) rfl ?_
      exact sX9_laySays_12 ih gz_fu a0 x1 (0 : Int32) h hf
def fX9_laySays_0  (a0 : Nat) (h : gz_H) : Option (Unit × gz_H) :=
    fX9_laySays_2 gz_fu a0 (0 : Int32) h
set_option maxRecDepth 100000 in
set_option maxHeartbeats 1000000 in
theorem sX9_laySays_0 {G : gz_G} {d l0 s0 : Nat} {Q : Unit → gz_H → Prop} (a0 : Nat) (h : gz_H) (hf : gz_g (fX9_laySays_0  a0 h) Q) : gz_Ok G mX9_laySays (d + 3, l0, s0, 0, 0) 0 [.ref a0, .retAddr 0, .retAddr 0] [] h (gz_qu Q) := by
  unfold fX9_laySays_0 at hf
  refine gz_iconst (v := (0 : Int32)) (pc := 0) dX9_laySays_0 rfl ?_
  refine gz_istore_n (lv := [.ref a0, .int (0 : Int32), .retAddr 0]) (pc := 1) dX9_laySays_1 rfl (by decide) rfl ?_
  exact sX9_laySays_2 gz_fu a0 (0 : Int32) h hf
def fX9_laySays (a0 : Nat) (h : gz_H) : Option (Unit × gz_H) := fX9_laySays_0 a0 h
theorem sX9_laySays {G : gz_G} {d : Nat} {a0 : Nat} {h : gz_H} {Q : Unit → gz_H → Prop} (hf : gz_g (fX9_laySays a0 h) Q) : gz_Cl G mX9_laySays (d + 3) 0 0 [.ref a0] h (gz_qu Q) := gz_cl_of (lo := [.ref a0, .retAddr 0, .retAddr 0]) (by decide) rfl rfl (Nat.le_of_ble_eq_true rfl) (sX9_laySays_0 a0 h hf)
theorem dX9_saidBy_0 : decode cX9_saidBy 0 = .ok (.iconst 0, 1) := by decide +kernel
theorem dX9_saidBy_1 : decode cX9_saidBy 1 = .ok (.istore_n 3, 1) := by decide +kernel
theorem dX9_saidBy_2 : decode cX9_saidBy 2 = .ok (.iconst 0, 1) := by decide +kernel
theorem dX9_saidBy_3 : decode cX9_saidBy 3 = .ok (.istore 4, 2) := by decide +kernel
theorem dX9_saidBy_5 : decode cX9_saidBy 5 = .ok (.iload 4, 2) := by decide +kernel
theorem dX9_saidBy_7 : decode cX9_saidBy 7 = .ok (.bipush 6, 2) := by decide +kernel
theorem dX9_saidBy_9 : decode cX9_saidBy 9 = .ok (.if_icmp .ge 37, 3) := by decide +kernel
theorem dX9_saidBy_12 : decode cX9_saidBy 12 = .ok (.iload_n 3, 1) := by decide +kernel
theorem dX9_saidBy_13 : decode cX9_saidBy 13 = .ok (.iload_n 2, 1) := by decide +kernel
theorem dX9_saidBy_14 : decode cX9_saidBy 14 = .ok (.iload 4, 2) := by decide +kernel
theorem dX9_saidBy_16 : decode cX9_saidBy 16 = .ok (.invokestatic 142, 3) := by decide +kernel
theorem dX9_saidBy_19 : decode cX9_saidBy 19 = .ok (.ifCond .eq 18, 3) := by decide +kernel
theorem dX9_saidBy_22 : decode cX9_saidBy 22 = .ok (.aload_n 0, 1) := by decide +kernel
theorem dX9_saidBy_23 : decode cX9_saidBy 23 = .ok (.getfield 59, 3) := by decide +kernel
theorem dX9_saidBy_26 : decode cX9_saidBy 26 = .ok (.bipush 6, 2) := by decide +kernel
theorem dX9_saidBy_28 : decode cX9_saidBy 28 = .ok (.iload_n 1, 1) := by decide +kernel
theorem dX9_saidBy_29 : decode cX9_saidBy 29 = .ok (.imul, 1) := by decide +kernel
theorem dX9_saidBy_30 : decode cX9_saidBy 30 = .ok (.iload 4, 2) := by decide +kernel
theorem dX9_saidBy_32 : decode cX9_saidBy 32 = .ok (.iadd, 1) := by decide +kernel
theorem dX9_saidBy_33 : decode cX9_saidBy 33 = .ok (.iaload, 1) := by decide +kernel
theorem dX9_saidBy_34 : decode cX9_saidBy 34 = .ok (.goto 4, 3) := by decide +kernel
theorem dX9_saidBy_37 : decode cX9_saidBy 37 = .ok (.iconst 0, 1) := by decide +kernel
theorem dX9_saidBy_38 : decode cX9_saidBy 38 = .ok (.ior, 1) := by decide +kernel
theorem dX9_saidBy_39 : decode cX9_saidBy 39 = .ok (.istore_n 3, 1) := by decide +kernel
theorem dX9_saidBy_40 : decode cX9_saidBy 40 = .ok (.iinc 4 1, 3) := by decide +kernel
theorem dX9_saidBy_43 : decode cX9_saidBy 43 = .ok (.goto (-38), 3) := by decide +kernel
theorem dX9_saidBy_46 : decode cX9_saidBy 46 = .ok (.iload_n 3, 1) := by decide +kernel
theorem dX9_saidBy_47 : decode cX9_saidBy 47 = .ok (.ireturn, 1) := by decide +kernel
def fX9_saidBy_38 (k5 : Nat → Int32 → Int32 → Int32 → Int32 → gz_H → Option (Int32 × gz_H)) (a0 : Nat) (x1 : Int32) (x2 : Int32) (x4 : Int32) (w0 : Int32) (w1 : Int32) (h : gz_H) : Option (Int32 × gz_H) :=
    k5 a0 x1 x2 (w0 ||| w1) (x4 + 1) h
set_option maxRecDepth 100000 in
set_option maxHeartbeats 1000000 in
theorem sX9_saidBy_38 {G : gz_G} {d l0 s0 : Nat} {Q : Int32 → gz_H → Prop} {k5 : Nat → Int32 → Int32 → Int32 → Int32 → gz_H → Option (Int32 × gz_H)} (hk5 : ∀ (a0 : Nat) (x1 : Int32) (x2 : Int32) (x3 : Int32) (x4 : Int32) (h : gz_H), gz_g (k5 a0 x1 x2 x3 x4 h) Q → gz_Ok G mX9_saidBy (d + 1, l0, s0, 0, 0) 5 [.ref a0, .int x1, .int x2, .int x3, .int x4] [] h (gz_qi Q)) (a0 : Nat) (x1 : Int32) (x2 : Int32) (x4 : Int32) (w0 : Int32) (w1 : Int32) (h : gz_H) (hf : gz_g (fX9_saidBy_38 k5 a0 x1 x2 x4 w0 w1 h) Q) : gz_Ok G mX9_saidBy (d + 1, l0, s0, 0, 0) 38 [.ref a0, .int x1, .int x2, .retAddr 0, .int x4] [.int w1, .int w0] h (gz_qi Q) := by
  unfold fX9_saidBy_38 at hf
  refine gz_ior (pc := 38) dX9_saidBy_38 ?_
  refine gz_istore_n (lv := [.ref a0, .int x1, .int x2, .int (w0 ||| w1), .int x4]) (pc := 39) dX9_saidBy_39 rfl (by decide) rfl ?_
  refine gz_iinc (v := x4 + 1) (lv := [.ref a0, .int x1, .int x2, .int (w0 ||| w1), .int (x4 + 1)]) (pc := 40) dX9_saidBy_40 rfl rfl (by decide) rfl ?_
  refine gz_goto (tgt := 5) (pc := 43) dX9_saidBy_43 rfl ?_
  exact hk5 a0 x1 x2 (w0 ||| w1) (x4 + 1) h hf
def fX9_saidBy_5  : Nat → Nat → Int32 → Int32 → Int32 → Int32 → gz_H → Option (Int32 × gz_H)
  | 0, _, _, _, _, _, _ => none
  | n + 1, a0, x1, x2, x3, x4, h =>
    if (6 : Int32) ≤ x4 then (
     some (x3, h)
    ) else (
     gz_b2 (fX9_has x2 x4 h) fun y_3 h_2 =>
     if y_3 = 0 then (
      fX9_saidBy_38 (fun z0 z1 z2 z3 z4 zh => fX9_saidBy_5 n z0 z1 z2 z3 z4 zh) a0 x1 x2 x4 x3 (0 : Int32) h_2
     ) else (
      gz_ck (gz_sh h_2 a0 9 29) <|
      gz_br (h_2.2.2.2 a0 27) fun r_6 =>
      gz_ck (gz_inb h_2 r_6 10 (((6 : Int32) * x1) + x4)) <|
      fX9_saidBy_38 (fun z0 z1 z2 z3 z4 zh => fX9_saidBy_5 n z0 z1 z2 z3 z4 zh) a0 x1 x2 x4 x3 (h_2.2.1 r_6 (((6 : Int32) * x1) + x4).toNatClampNeg) h_2
     )
    )
set_option maxRecDepth 100000 in
set_option maxHeartbeats 1000000 in
theorem sX9_saidBy_5 {G : gz_G} {d l0 s0 : Nat} {Q : Int32 → gz_H → Prop} : ∀ (n : Nat) (a0 : Nat) (x1 : Int32) (x2 : Int32) (x3 : Int32) (x4 : Int32) (h : gz_H), gz_g (fX9_saidBy_5  n a0 x1 x2 x3 x4 h) Q → gz_Ok G mX9_saidBy (d + 1, l0, s0, 0, 0) 5 [.ref a0, .int x1, .int x2, .int x3, .int x4] [] h (gz_qi Q) := by
  intro n
  induction n with
  | zero => intro a0 x1 x2 x3 x4 h hf; exact False.elim hf
  | succ n ih =>
    intro a0 x1 x2 x3 x4 h hf
    rw [fX9_saidBy_5] at hf
    refine gz_iload (pc := 5) dX9_saidBy_5 rfl ?_
    refine gz_bipush (v := (6 : Int32)) (pc := 7) dX9_saidBy_7 rfl ?_
    refine gz_icmp_ge (tgt := 46) (pc := 9) dX9_saidBy_9 rfl (fun c_1 => ?_) (fun c_1 => ?_)
    · have hf := gz_gT hf c_1
      refine gz_iload_n (pc := 46) dX9_saidBy_46 rfl rfl ?_
      exact gz_irt (pc := 47) dX9_saidBy_47 rfl rfl hf
    · have hf := gz_gF hf c_1
      refine gz_iload_n (pc := 12) dX9_saidBy_12 rfl rfl ?_
      refine gz_iload_n (pc := 13) dX9_saidBy_13 rfl rfl ?_
      refine gz_iload (pc := 14) dX9_saidBy_14 rfl ?_
      refine gz_cSI (av := [.int x2, .int x4]) (st := [.int x3]) (pc := 16) dX9_saidBy_16 kl_RX9_142 rfl rfl (Nat.le_of_ble_eq_true rfl) (by show d + 0 + 0 + 1 ≤ d + 1; omega) (sX9_has (d := d + 0) (gz_gc hf)) (fun y_3 h_2 hf => ?_)
      refine gz_if_eq (tgt := 37) (pc := 19) dX9_saidBy_19 rfl (fun c_4 => ?_) (fun c_4 => ?_)
      · have hf := gz_gT hf c_4
        refine gz_iconst (v := (0 : Int32)) (pc := 37) dX9_saidBy_37 rfl ?_
        refine gz_fg (lv := [.ref a0, .int x1, .int x2, .retAddr 0, .int x4]) ⟨Or.inr rfl, ⟨Or.inr rfl, ⟨Or.inr rfl, ⟨Or.inl rfl, ⟨Or.inr rfl, trivial⟩⟩⟩⟩⟩ ?_
        exact sX9_saidBy_38 ih a0 x1 x2 x4 x3 (0 : Int32) h_2 hf
      · have hf := gz_gF hf c_4
        refine gz_aload_n (pc := 22) dX9_saidBy_22 rfl rfl ?_
        refine gz_gk hf (fun c_5 hf => ?_)
        refine gz_gb hf (fun r_6 er_6 hf => ?_)
        refine gz_getR (pc := 23) dX9_saidBy_23 fl_RX9_59 rfl (gz_shs c_5) er_6 ?_
        refine gz_bipush (v := (6 : Int32)) (pc := 26) dX9_saidBy_26 rfl ?_
        refine gz_iload_n (pc := 28) dX9_saidBy_28 rfl rfl ?_
        refine gz_imul (pc := 29) dX9_saidBy_29 ?_
        refine gz_iload (pc := 30) dX9_saidBy_30 rfl ?_
        refine gz_iadd (pc := 32) dX9_saidBy_32 ?_
        refine gz_gk hf (fun c_7 hf => ?_)
        refine gz_iald (pc := 33) dX9_saidBy_33 c_7 ?_
        refine gz_goto (tgt := 38) (pc := 34) dX9_saidBy_34 rfl ?_
        refine gz_fg (lv := [.ref a0, .int x1, .int x2, .retAddr 0, .int x4]) ⟨Or.inr rfl, ⟨Or.inr rfl, ⟨Or.inr rfl, ⟨Or.inl rfl, ⟨Or.inr rfl, trivial⟩⟩⟩⟩⟩ ?_
        exact sX9_saidBy_38 ih a0 x1 x2 x4 x3 (h_2.2.1 r_6 (((6 : Int32) * x1) + x4).toNatClampNeg) h_2 hf
def fX9_saidBy_0  (a0 : Nat) (x1 : Int32) (x2 : Int32) (h : gz_H) : Option (Int32 × gz_H) :=
    fX9_saidBy_5 gz_fu a0 x1 x2 (0 : Int32) (0 : Int32) h
set_option maxRecDepth 100000 in
set_option maxHeartbeats 1000000 in
theorem sX9_saidBy_0 {G : gz_G} {d l0 s0 : Nat} {Q : Int32 → gz_H → Prop} (a0 : Nat) (x1 : Int32) (x2 : Int32) (h : gz_H) (hf : gz_g (fX9_saidBy_0  a0 x1 x2 h) Q) : gz_Ok G mX9_saidBy (d + 1, l0, s0, 0, 0) 0 [.ref a0, .int x1, .int x2, .retAddr 0, .retAddr 0] [] h (gz_qi Q) := by
  unfold fX9_saidBy_0 at hf
  refine gz_iconst (v := (0 : Int32)) (pc := 0) dX9_saidBy_0 rfl ?_
  refine gz_istore_n (lv := [.ref a0, .int x1, .int x2, .int (0 : Int32), .retAddr 0]) (pc := 1) dX9_saidBy_1 rfl (by decide) rfl ?_
  refine gz_iconst (v := (0 : Int32)) (pc := 2) dX9_saidBy_2 rfl ?_
  refine gz_istore (lv := [.ref a0, .int x1, .int x2, .int (0 : Int32), .int (0 : Int32)]) (pc := 3) dX9_saidBy_3 (by decide) rfl ?_
  exact sX9_saidBy_5 gz_fu a0 x1 x2 (0 : Int32) (0 : Int32) h hf
def fX9_saidBy (a0 : Nat) (x1 : Int32) (x2 : Int32) (h : gz_H) : Option (Int32 × gz_H) := fX9_saidBy_0 a0 x1 x2 h
theorem sX9_saidBy {G : gz_G} {d : Nat} {a0 : Nat} {x1 : Int32} {x2 : Int32} {h : gz_H} {Q : Int32 → gz_H → Prop} (hf : gz_g (fX9_saidBy a0 x1 x2 h) Q) : gz_Cl G mX9_saidBy (d + 1) 0 0 [.ref a0, .int x1, .int x2] h (gz_qi Q) := gz_cl_of (lo := [.ref a0, .int x1, .int x2, .retAddr 0, .retAddr 0]) (by decide) rfl rfl (Nat.le_of_ble_eq_true rfl) (sX9_saidBy_0 a0 x1 x2 h hf)
theorem dX9_isAhead_0 : decode cX9_isAhead 0 = .ok (.iload_n 0, 1) := by decide +kernel
theorem dX9_isAhead_1 : decode cX9_isAhead 1 = .ok (.iload_n 1, 1) := by decide +kernel
theorem dX9_isAhead_2 : decode cX9_isAhead 2 = .ok (.ixor, 1) := by decide +kernel
theorem dX9_isAhead_3 : decode cX9_isAhead 3 = .ok (.istore_n 2, 1) := by decide +kernel
theorem dX9_isAhead_4 : decode cX9_isAhead 4 = .ok (.iload_n 2, 1) := by decide +kernel
theorem dX9_isAhead_5 : decode cX9_isAhead 5 = .ok (.iload_n 2, 1) := by decide +kernel
theorem dX9_isAhead_6 : decode cX9_isAhead 6 = .ok (.ineg, 1) := by decide +kernel
theorem dX9_isAhead_7 : decode cX9_isAhead 7 = .ok (.iand, 1) := by decide +kernel
theorem dX9_isAhead_8 : decode cX9_isAhead 8 = .ok (.iload_n 0, 1) := by decide +kernel
theorem dX9_isAhead_9 : decode cX9_isAhead 9 = .ok (.iand, 1) := by decide +kernel
theorem dX9_isAhead_10 : decode cX9_isAhead 10 = .ok (.ifCond .eq 7, 3) := by decide +kernel
theorem dX9_isAhead_13 : decode cX9_isAhead 13 = .ok (.iconst 1, 1) := by decide +kernel
theorem dX9_isAhead_14 : decode cX9_isAhead 14 = .ok (.goto 4, 3) := by decide +kernel
theorem dX9_isAhead_17 : decode cX9_isAhead 17 = .ok (.iconst 0, 1) := by decide +kernel
theorem dX9_isAhead_18 : decode cX9_isAhead 18 = .ok (.ireturn, 1) := by decide +kernel
def fX9_isAhead_0  (x0 : Int32) (x1 : Int32) (h : gz_H) : Option (Int32 × gz_H) :=
    if (((x0 ^^^ x1) &&& (-(x0 ^^^ x1))) &&& x0) = 0 then (
     some ((0 : Int32), h)
    ) else (
     some ((1 : Int32), h)
    )
set_option maxRecDepth 100000 in
set_option maxHeartbeats 1000000 in
theorem sX9_isAhead_0 {G : gz_G} {d l0 s0 : Nat} {Q : Int32 → gz_H → Prop} (x0 : Int32) (x1 : Int32) (h : gz_H) (hf : gz_g (fX9_isAhead_0  x0 x1 h) Q) : gz_Ok G mX9_isAhead (d + 0, l0, s0, 0, 0) 0 [.int x0, .int x1, .retAddr 0] [] h (gz_qi Q) := by
  unfold fX9_isAhead_0 at hf
  refine gz_iload_n (pc := 0) dX9_isAhead_0 rfl rfl ?_
  refine gz_iload_n (pc := 1) dX9_isAhead_1 rfl rfl ?_
  refine gz_ixor (pc := 2) dX9_isAhead_2 ?_
  refine gz_istore_n (lv := [.int x0, .int x1, .int (x0 ^^^ x1)]) (pc := 3) dX9_isAhead_3 rfl (by decide) rfl ?_
  refine gz_iload_n (pc := 4) dX9_isAhead_4 rfl rfl ?_
  refine gz_iload_n (pc := 5) dX9_isAhead_5 rfl rfl ?_
  refine gz_ineg (pc := 6) dX9_isAhead_6 ?_
  refine gz_iand (pc := 7) dX9_isAhead_7 ?_
  refine gz_iload_n (pc := 8) dX9_isAhead_8 rfl rfl ?_
  refine gz_iand (pc := 9) dX9_isAhead_9 ?_
  refine gz_if_eq (tgt := 17) (pc := 10) dX9_isAhead_10 rfl (fun c_1 => ?_) (fun c_1 => ?_)
  · have hf := gz_gT hf c_1
    refine gz_iconst (v := (0 : Int32)) (pc := 17) dX9_isAhead_17 rfl ?_
    exact gz_irt (pc := 18) dX9_isAhead_18 rfl rfl hf
  · have hf := gz_gF hf c_1
    refine gz_iconst (v := (1 : Int32)) (pc := 13) dX9_isAhead_13 rfl ?_
    refine gz_goto (tgt := 18) (pc := 14) dX9_isAhead_14 rfl ?_
    exact gz_irt (pc := 18) dX9_isAhead_18 rfl rfl hf
def fX9_isAhead (x0 : Int32) (x1 : Int32) (h : gz_H) : Option (Int32 × gz_H) := fX9_isAhead_0 x0 x1 h
theorem sX9_isAhead {G : gz_G} {d : Nat} {x0 : Int32} {x1 : Int32} {h : gz_H} {Q : Int32 → gz_H → Prop} (hf : gz_g (fX9_isAhead x0 x1 h) Q) : gz_Cl G mX9_isAhead (d + 0) 0 0 [.int x0, .int x1] h (gz_qi Q) := gz_cl_of (lo := [.int x0, .int x1, .retAddr 0]) (by decide) rfl rfl (Nat.le_of_ble_eq_true rfl) (sX9_isAhead_0 x0 x1 h hf)
theorem dX9_walk_0 : decode cX9_walk 0 = .ok (.aload_n 0, 1) := by decide +kernel
theorem dX9_walk_1 : decode cX9_walk 1 = .ok (.iload_n 1, 1) := by decide +kernel
theorem dX9_walk_2 : decode cX9_walk 2 = .ok (.invokevirtual 196, 3) := by decide +kernel
theorem dX9_walk_5 : decode cX9_walk 5 = .ok (.ifCond .eq 18, 3) := by decide +kernel
theorem dX9_walk_8 : decode cX9_walk 8 = .ok (.aload_n 0, 1) := by decide +kernel
theorem dX9_walk_9 : decode cX9_walk 9 = .ok (.iload_n 2, 1) := by decide +kernel
theorem dX9_walk_10 : decode cX9_walk 10 = .ok (.invokevirtual 257, 3) := by decide +kernel
theorem dX9_walk_13 : decode cX9_walk 13 = .ok (.ifCond .eq 10, 3) := by decide +kernel
theorem dX9_walk_16 : decode cX9_walk 16 = .ok (.iload_n 3, 1) := by decide +kernel
theorem dX9_walk_17 : decode cX9_walk 17 = .ok (.invokestatic 80, 3) := by decide +kernel
theorem dX9_walk_20 : decode cX9_walk 20 = .ok (.ifCond .ne 5, 3) := by decide +kernel
theorem dX9_walk_23 : decode cX9_walk 23 = .ok (.iconst (-1), 1) := by decide +kernel
theorem dX9_walk_24 : decode cX9_walk 24 = .ok (.ireturn, 1) := by decide +kernel
theorem dX9_walk_25 : decode cX9_walk 25 = .ok (.aload_n 0, 1) := by decide +kernel
theorem dX9_walk_26 : decode cX9_walk 26 = .ok (.invokevirtual 260, 3) := by decide +kernel
theorem dX9_walk_29 : decode cX9_walk 29 = .ok (.bipush (-9), 2) := by decide +kernel
theorem dX9_walk_31 : decode cX9_walk 31 = .ok (.istore 4, 2) := by decide +kernel
theorem dX9_walk_33 : decode cX9_walk 33 = .ok (.iconst 0, 1) := by decide +kernel
theorem dX9_walk_34 : decode cX9_walk 34 = .ok (.istore 5, 2) := by decide +kernel
theorem dX9_walk_36 : decode cX9_walk 36 = .ok (.iload 5, 2) := by decide +kernel
theorem dX9_walk_38 : decode cX9_walk 38 = .ok (.bipush 64, 2) := by decide +kernel
theorem dX9_walk_40 : decode cX9_walk 40 = .ok (.if_icmp .ge 99, 3) := by decide +kernel
theorem dX9_walk_43 : decode cX9_walk 43 = .ok (.iload_n 2, 1) := by decide +kernel
theorem dX9_walk_44 : decode cX9_walk 44 = .ok (.aload_n 0, 1) := by decide +kernel
theorem dX9_walk_45 : decode cX9_walk 45 = .ok (.iload_n 1, 1) := by decide +kernel
theorem dX9_walk_46 : decode cX9_walk 46 = .ok (.iload 5, 2) := by decide +kernel
theorem dX9_walk_48 : decode cX9_walk 48 = .ok (.invokevirtual 263, 3) := by decide +kernel
theorem dX9_walk_51 : decode cX9_walk 51 = .ok (.iconst (-1), 1) := by decide +kernel
theorem dX9_walk_52 : decode cX9_walk 52 = .ok (.ixor, 1) := by decide +kernel
theorem dX9_walk_53 : decode cX9_walk 53 = .ok (.iand, 1) := by decide +kernel
theorem dX9_walk_54 : decode cX9_walk 54 = .ok (.ifCond .ne 7, 3) := by decide +kernel
theorem dX9_walk_57 : decode cX9_walk 57 = .ok (.iconst 1, 1) := by decide +kernel
theorem dX9_walk_58 : decode cX9_walk 58 = .ok (.goto 4, 3) := by decide +kernel
theorem dX9_walk_61 : decode cX9_walk 61 = .ok (.iconst 0, 1) := by decide +kernel
theorem dX9_walk_62 : decode cX9_walk 62 = .ok (.istore 6, 2) := by decide +kernel
theorem dX9_walk_64 : decode cX9_walk 64 = .ok (.iload 4, 2) := by decide +kernel
theorem dX9_walk_66 : decode cX9_walk 66 = .ok (.bipush (-9), 2) := by decide +kernel
theorem dX9_walk_68 : decode cX9_walk 68 = .ok (.if_icmp .eq 39, 3) := by decide +kernel
theorem dX9_walk_71 : decode cX9_walk 71 = .ok (.iload 5, 2) := by decide +kernel
theorem dX9_walk_73 : decode cX9_walk 73 = .ok (.invokestatic 193, 3) := by decide +kernel
theorem dX9_walk_76 : decode cX9_walk 76 = .ok (.iload 4, 2) := by decide +kernel
theorem dX9_walk_78 : decode cX9_walk 78 = .ok (.invokestatic 193, 3) := by decide +kernel
theorem dX9_walk_81 : decode cX9_walk 81 = .ok (.if_icmp .lt 26, 3) := by decide +kernel
theorem dX9_walk_84 : decode cX9_walk 84 = .ok (.iload 5, 2) := by decide +kernel
theorem dX9_walk_86 : decode cX9_walk 86 = .ok (.invokestatic 193, 3) := by decide +kernel
theorem dX9_walk_89 : decode cX9_walk 89 = .ok (.iload 4, 2) := by decide +kernel
theorem dX9_walk_91 : decode cX9_walk 91 = .ok (.invokestatic 193, 3) := by decide +kernel
theorem dX9_walk_94 : decode cX9_walk 94 = .ok (.if_icmp .ne 17, 3) := by decide +kernel
theorem dX9_walk_97 : decode cX9_walk 97 = .ok (.iload 5, 2) := by decide +kernel
theorem dX9_walk_99 : decode cX9_walk 99 = .ok (.iload 4, 2) := by decide +kernel
theorem dX9_walk_101 : decode cX9_walk 101 = .ok (.invokestatic 266, 3) := by decide +kernel
theorem dX9_walk_104 : decode cX9_walk 104 = .ok (.ifCond .eq 7, 3) := by decide +kernel
theorem dX9_walk_107 : decode cX9_walk 107 = .ok (.iconst 1, 1) := by decide +kernel
theorem dX9_walk_108 : decode cX9_walk 108 = .ok (.goto 4, 3) := by decide +kernel
theorem dX9_walk_111 : decode cX9_walk 111 = .ok (.iconst 0, 1) := by decide +kernel
theorem dX9_walk_112 : decode cX9_walk 112 = .ok (.istore 7, 2) := by decide +kernel
theorem dX9_walk_114 : decode cX9_walk 114 = .ok (.iload 6, 2) := by decide +kernel
theorem dX9_walk_116 : decode cX9_walk 116 = .ok (.ifCond .eq 13, 3) := by decide +kernel
theorem dX9_walk_119 : decode cX9_walk 119 = .ok (.iload 7, 2) := by decide +kernel
theorem dX9_walk_121 : decode cX9_walk 121 = .ok (.ifCond .eq 8, 3) := by decide +kernel
theorem dX9_walk_124 : decode cX9_walk 124 = .ok (.iload 5, 2) := by decide +kernel
theorem dX9_walk_126 : decode cX9_walk 126 = .ok (.goto 5, 3) := by decide +kernel
theorem dX9_walk_129 : decode cX9_walk 129 = .ok (.iload 4, 2) := by decide +kernel
theorem dX9_walk_131 : decode cX9_walk 131 = .ok (.istore 4, 2) := by decide +kernel
theorem dX9_walk_133 : decode cX9_walk 133 = .ok (.iinc 5 1, 3) := by decide +kernel
theorem dX9_walk_136 : decode cX9_walk 136 = .ok (.goto (-100), 3) := by decide +kernel
theorem dX9_walk_139 : decode cX9_walk 139 = .ok (.iload 4, 2) := by decide +kernel
theorem dX9_walk_141 : decode cX9_walk 141 = .ok (.bipush (-9), 2) := by decide +kernel
theorem dX9_walk_143 : decode cX9_walk 143 = .ok (.if_icmp .ne 6, 3) := by decide +kernel
theorem dX9_walk_146 : decode cX9_walk 146 = .ok (.bipush (-9), 2) := by decide +kernel
theorem dX9_walk_148 : decode cX9_walk 148 = .ok (.ireturn, 1) := by decide +kernel
theorem dX9_walk_149 : decode cX9_walk 149 = .ok (.aload_n 0, 1) := by decide +kernel
theorem dX9_walk_150 : decode cX9_walk 150 = .ok (.iload_n 3, 1) := by decide +kernel
theorem dX9_walk_151 : decode cX9_walk 151 = .ok (.iload 4, 2) := by decide +kernel
theorem dX9_walk_153 : decode cX9_walk 153 = .ok (.invokestatic 193, 3) := by decide +kernel
theorem dX9_walk_156 : decode cX9_walk 156 = .ok (.invokevirtual 88, 3) := by decide +kernel
theorem dX9_walk_159 : decode cX9_walk 159 = .ok (.iconst 0, 1) := by decide +kernel
theorem dX9_walk_160 : decode cX9_walk 160 = .ok (.istore 5, 2) := by decide +kernel
theorem dX9_walk_162 : decode cX9_walk 162 = .ok (.iconst 0, 1) := by decide +kernel
theorem dX9_walk_163 : decode cX9_walk 163 = .ok (.istore 6, 2) := by decide +kernel
theorem dX9_walk_165 : decode cX9_walk 165 = .ok (.iload 6, 2) := by decide +kernel
theorem dX9_walk_167 : decode cX9_walk 167 = .ok (.bipush 6, 2) := by decide +kernel
theorem dX9_walk_169 : decode cX9_walk 169 = .ok (.if_icmp .ge 36, 3) := by decide +kernel
theorem dX9_walk_172 : decode cX9_walk 172 = .ok (.iload 4, 2) := by decide +kernel
theorem dX9_walk_174 : decode cX9_walk 174 = .ok (.iload 6, 2) := by decide +kernel
theorem dX9_walk_176 : decode cX9_walk 176 = .ok (.invokestatic 142, 3) := by decide +kernel
theorem dX9_walk_179 : decode cX9_walk 179 = .ok (.ifCond .eq 20, 3) := by decide +kernel
theorem dX9_walk_182 : decode cX9_walk 182 = .ok (.aload_n 0, 1) := by decide +kernel
theorem dX9_walk_183 : decode cX9_walk 183 = .ok (.getfield 28, 3) := by decide +kernel
theorem dX9_walk_186 : decode cX9_walk 186 = .ok (.bipush 40, 2) := by decide +kernel
theorem dX9_walk_188 : decode cX9_walk 188 = .ok (.iload_n 3, 1) := by decide +kernel
theorem dX9_walk_189 : decode cX9_walk 189 = .ok (.imul, 1) := by decide +kernel
theorem dX9_walk_190 : decode cX9_walk 190 = .ok (.iload 5, 2) := by decide +kernel
theorem dX9_walk_192 : decode cX9_walk 192 = .ok (.iadd, 1) := by decide +kernel
theorem dX9_walk_193 : decode cX9_walk 193 = .ok (.iload 6, 2) := by decide +kernel
theorem dX9_walk_195 : decode cX9_walk 195 = .ok (.iastore, 1) := by decide +kernel
theorem dX9_walk_196 : decode cX9_walk 196 = .ok (.iinc 5 1, 3) := by decide +kernel
theorem dX9_walk_199 : decode cX9_walk 199 = .ok (.iinc 6 1, 3) := by decide +kernel
theorem dX9_walk_202 : decode cX9_walk 202 = .ok (.goto (-37), 3) := by decide +kernel
theorem dX9_walk_205 : decode cX9_walk 205 = .ok (.iload 5, 2) := by decide +kernel
theorem dX9_walk_207 : decode cX9_walk 207 = .ok (.ireturn, 1) := by decide +kernel
def fX9_walk_131 (k36 : Nat → Int32 → Int32 → Int32 → Int32 → Int32 → gz_H → Option (Int32 × gz_H)) (a0 : Nat) (x1 : Int32) (x2 : Int32) (x3 : Int32) (x5 : Int32) (w0 : Int32) (h : gz_H) : Option (Int32 × gz_H) :=
    k36 a0 x1 x2 x3 w0 (x5 + 1) h
set_option maxRecDepth 100000 in
set_option maxHeartbeats 1000000 in
theorem sX9_walk_131 {G : gz_G} {d l0 s0 : Nat} {Q : Int32 → gz_H → Prop} {k36 : Nat → Int32 → Int32 → Int32 → Int32 → Int32 → gz_H → Option (Int32 × gz_H)} (hk36 : ∀ (a0 : Nat) (x1 : Int32) (x2 : Int32) (x3 : Int32) (x4 : Int32) (x5 : Int32) (h : gz_H), gz_g (k36 a0 x1 x2 x3 x4 x5 h) Q → gz_Ok G mX9_walk (d + 4, l0, s0, 0, 0) 36 [.ref a0, .int x1, .int x2, .int x3, .int x4, .int x5, .retAddr 0, .retAddr 0] [] h (gz_qi Q)) (a0 : Nat) (x1 : Int32) (x2 : Int32) (x3 : Int32) (x5 : Int32) (w0 : Int32) (h : gz_H) (hf : gz_g (fX9_walk_131 k36 a0 x1 x2 x3 x5 w0 h) Q) : gz_Ok G mX9_walk (d + 4, l0, s0, 0, 0) 131 [.ref a0, .int x1, .int x2, .int x3, .retAddr 0, .int x5, .retAddr 0, .retAddr 0] [.int w0] h (gz_qi Q) := by
  unfold fX9_walk_131 at hf
  refine gz_istore (lv := [.ref a0, .int x1, .int x2, .int x3, .int w0, .int x5, .retAddr 0, .retAddr 0]) (pc := 131) dX9_walk_131 (by decide) rfl ?_
  refine gz_iinc (v := x5 + 1) (lv := [.ref a0, .int x1, .int x2, .int x3, .int w0, .int (x5 + 1), .retAddr 0, .retAddr 0]) (pc := 133) dX9_walk_133 rfl rfl (by decide) rfl ?_
  refine gz_goto (tgt := 36) (pc := 136) dX9_walk_136 rfl ?_
  exact hk36 a0 x1 x2 x3 w0 (x5 + 1) h hf
def fX9_walk_129 (k36 : Nat → Int32 → Int32 → Int32 → Int32 → Int32 → gz_H → Option (Int32 × gz_H)) (a0 : Nat) (x1 : Int32) (x2 : Int32) (x3 : Int32) (x4 : Int32) (x5 : Int32) (h : gz_H) : Option (Int32 × gz_H) :=
    fX9_walk_131 k36 a0 x1 x2 x3 x5 x4 h
set_option maxRecDepth 100000 in
set_option maxHeartbeats 1000000 in
theorem sX9_walk_129 {G : gz_G} {d l0 s0 : Nat} {Q : Int32 → gz_H → Prop} {k36 : Nat → Int32 → Int32 → Int32 → Int32 → Int32 → gz_H → Option (Int32 × gz_H)} (hk36 : ∀ (a0 : Nat) (x1 : Int32) (x2 : Int32) (x3 : Int32) (x4 : Int32) (x5 : Int32) (h : gz_H), gz_g (k36 a0 x1 x2 x3 x4 x5 h) Q → gz_Ok G mX9_walk (d + 4, l0, s0, 0, 0) 36 [.ref a0, .int x1, .int x2, .int x3, .int x4, .int x5, .retAddr 0, .retAddr 0] [] h (gz_qi Q)) (a0 : Nat) (x1 : Int32) (x2 : Int32) (x3 : Int32) (x4 : Int32) (x5 : Int32) (h : gz_H) (hf : gz_g (fX9_walk_129 k36 a0 x1 x2 x3 x4 x5 h) Q) : gz_Ok G mX9_walk (d + 4, l0, s0, 0, 0) 129 [.ref a0, .int x1, .int x2, .int x3, .int x4, .int x5, .retAddr 0, .retAddr 0] [] h (gz_qi Q) := by
  unfold fX9_walk_129 at hf
  refine gz_iload (pc := 129) dX9_walk_129 rfl ?_
  refine gz_fg (lv := [.ref a0, .int x1, .int x2, .int x3, .retAddr 0, .int x5, .retAddr 0, .retAddr 0]) ⟨Or.inr rfl, ⟨Or.inr rfl, ⟨Or.inr rfl, ⟨Or.inr rfl, ⟨Or.inl rfl, ⟨Or.inr rfl, ⟨Or.inl rfl, ⟨Or.inl rfl, trivial⟩⟩⟩⟩⟩⟩⟩⟩ ?_
  exact sX9_walk_131 hk36 a0 x1 x2 x3 x5 x4 h hf
def fX9_walk_112 (k36 : Nat → Int32 → Int32 → Int32 → Int32 → Int32 → gz_H → Option (Int32 × gz_H)) (a0 : Nat) (x1 : Int32) (x2 : Int32) (x3 : Int32) (x4 : Int32) (x5 : Int32) (x6 : Int32) (w0 : Int32) (h : gz_H) : Option (Int32 × gz_H) :=
    if x6 = 0 then (
     fX9_walk_129 k36 a0 x1 x2 x3 x4 x5 h
    ) else (
     if w0 = 0 then (
      fX9_walk_129 k36 a0 x1 x2 x3 x4 x5 h
     ) else (
      fX9_walk_131 k36 a0 x1 x2 x3 x5 x5 h
     )
    )
set_option maxRecDepth 100000 in
set_option maxHeartbeats 1000000 in
theorem sX9_walk_112 {G : gz_G} {d l0 s0 : Nat} {Q : Int32 → gz_H → Prop} {k36 : Nat → Int32 → Int32 → Int32 → Int32 → Int32 → gz_H → Option (Int32 × gz_H)} (hk36 : ∀ (a0 : Nat) (x1 : Int32) (x2 : Int32) (x3 : Int32) (x4 : Int32) (x5 : Int32) (h : gz_H), gz_g (k36 a0 x1 x2 x3 x4 x5 h) Q → gz_Ok G mX9_walk (d + 4, l0, s0, 0, 0) 36 [.ref a0, .int x1, .int x2, .int x3, .int x4, .int x5, .retAddr 0, .retAddr 0] [] h (gz_qi Q)) (a0 : Nat) (x1 : Int32) (x2 : Int32) (x3 : Int32) (x4 : Int32) (x5 : Int32) (x6 : Int32) (w0 : Int32) (h : gz_H) (hf : gz_g (fX9_walk_112 k36 a0 x1 x2 x3 x4 x5 x6 w0 h) Q) : gz_Ok G mX9_walk (d + 4, l0, s0, 0, 0) 112 [.ref a0, .int x1, .int x2, .int x3, .int x4, .int x5, .int x6, .retAddr 0] [.int w0] h (gz_qi Q) := by
  unfold fX9_walk_112 at hf
  refine gz_istore (lv := [.ref a0, .int x1, .int x2, .int x3, .int x4, .int x5, .int x6, .int w0]) (pc := 112) dX9_walk_112 (by decide) rfl ?_
  refine gz_iload (pc := 114) dX9_walk_114 rfl ?_
  refine gz_if_eq (tgt := 129) (pc := 116) dX9_walk_116 rfl (fun c_1 => ?_) (fun c_1 => ?_)
  · have hf := gz_gT hf c_1
    refine gz_fg (lv := [.ref a0, .int x1, .int x2, .int x3, .int x4, .int x5, .retAddr 0, .retAddr 0]) ⟨Or.inr rfl, ⟨Or.inr rfl, ⟨Or.inr rfl, ⟨Or.inr rfl, ⟨Or.inr rfl, ⟨Or.inr rfl, ⟨Or.inl rfl, ⟨Or.inl rfl, trivial⟩⟩⟩⟩⟩⟩⟩⟩ ?_
    exact sX9_walk_129 hk36 a0 x1 x2 x3 x4 x5 h hf
  · have hf := gz_gF hf c_1
    refine gz_iload (pc := 119) dX9_walk_119 rfl ?_
    refine gz_if_eq (tgt := 129) (pc := 121) dX9_walk_121 rfl (fun c_2 => ?_) (fun c_2 => ?_)
    · have hf := gz_gT hf c_2
      refine gz_fg (lv := [.ref a0, .int x1, .int x2, .int x3, .int x4, .int x5, .retAddr 0, .retAddr 0]) ⟨Or.inr rfl, ⟨Or.inr rfl, ⟨Or.inr rfl, ⟨Or.inr rfl, ⟨Or.inr rfl, ⟨Or.inr rfl, ⟨Or.inl rfl, ⟨Or.inl rfl, trivial⟩⟩⟩⟩⟩⟩⟩⟩ ?_
      exact sX9_walk_129 hk36 a0 x1 x2 x3 x4 x5 h hf
    · have hf := gz_gF hf c_2
      refine gz_iload (pc := 124) dX9_walk_124 rfl ?_
      refine gz_goto (tgt := 131) (pc := 126) dX9_walk_126 rfl ?_
      refine gz_fg (lv := [.ref a0, .int x1, .int x2, .int x3, .retAddr 0, .int x5, .retAddr 0, .retAddr 0]) ⟨Or.inr rfl, ⟨Or.inr rfl, ⟨Or.inr rfl, ⟨Or.inr rfl, ⟨Or.inl rfl, ⟨Or.inr rfl, ⟨Or.inl rfl, ⟨Or.inl rfl, trivial⟩⟩⟩⟩⟩⟩⟩⟩ ?_
      exact sX9_walk_131 hk36 a0 x1 x2 x3 x5 x5 h hf
def fX9_walk_107 (k36 : Nat → Int32 → Int32 → Int32 → Int32 → Int32 → gz_H → Option (Int32 × gz_H)) (a0 : Nat) (x1 : Int32) (x2 : Int32) (x3 : Int32) (x4 : Int32) (x5 : Int32) (x6 : Int32) (h : gz_H) : Option (Int32 × gz_H) :=
    fX9_walk_112 k36 a0 x1 x2 x3 x4 x5 x6 (1 : Int32) h
set_option maxRecDepth 100000 in
set_option maxHeartbeats 1000000 in
theorem sX9_walk_107 {G : gz_G} {d l0 s0 : Nat} {Q : Int32 → gz_H → Prop} {k36 : Nat → Int32 → Int32 → Int32 → Int32 → Int32 → gz_H → Option (Int32 × gz_H)} (hk36 : ∀ (a0 : Nat) (x1 : Int32) (x2 : Int32) (x3 : Int32) (x4 : Int32) (x5 : Int32) (h : gz_H), gz_g (k36 a0 x1 x2 x3 x4 x5 h) Q → gz_Ok G mX9_walk (d + 4, l0, s0, 0, 0) 36 [.ref a0, .int x1, .int x2, .int x3, .int x4, .int x5, .retAddr 0, .retAddr 0] [] h (gz_qi Q)) (a0 : Nat) (x1 : Int32) (x2 : Int32) (x3 : Int32) (x4 : Int32) (x5 : Int32) (x6 : Int32) (h : gz_H) (hf : gz_g (fX9_walk_107 k36 a0 x1 x2 x3 x4 x5 x6 h) Q) : gz_Ok G mX9_walk (d + 4, l0, s0, 0, 0) 107 [.ref a0, .int x1, .int x2, .int x3, .int x4, .int x5, .int x6, .retAddr 0] [] h (gz_qi Q) := by
  unfold fX9_walk_107 at hf
  refine gz_iconst (v := (1 : Int32)) (pc := 107) dX9_walk_107 rfl ?_
  refine gz_goto (tgt := 112) (pc := 108) dX9_walk_108 rfl ?_
  exact sX9_walk_112 hk36 a0 x1 x2 x3 x4 x5 x6 (1 : Int32) h hf
def fX9_walk_111 (k36 : Nat → Int32 → Int32 → Int32 → Int32 → Int32 → gz_H → Option (Int32 × gz_H)) (a0 : Nat) (x1 : Int32) (x2 : Int32) (x3 : Int32) (x4 : Int32) (x5 : Int32) (x6 : Int32) (h : gz_H) : Option (Int32 × gz_H) :=
    fX9_walk_112 k36 a0 x1 x2 x3 x4 x5 x6 (0 : Int32) h
set_option maxRecDepth 100000 in
set_option maxHeartbeats 1000000 in
theorem sX9_walk_111 {G : gz_G} {d l0 s0 : Nat} {Q : Int32 → gz_H → Prop} {k36 : Nat → Int32 → Int32 → Int32 → Int32 → Int32 → gz_H → Option (Int32 × gz_H)} (hk36 : ∀ (a0 : Nat) (x1 : Int32) (x2 : Int32) (x3 : Int32) (x4 : Int32) (x5 : Int32) (h : gz_H), gz_g (k36 a0 x1 x2 x3 x4 x5 h) Q → gz_Ok G mX9_walk (d + 4, l0, s0, 0, 0) 36 [.ref a0, .int x1, .int x2, .int x3, .int x4, .int x5, .retAddr 0, .retAddr 0] [] h (gz_qi Q)) (a0 : Nat) (x1 : Int32) (x2 : Int32) (x3 : Int32) (x4 : Int32) (x5 : Int32) (x6 : Int32) (h : gz_H) (hf : gz_g (fX9_walk_111 k36 a0 x1 x2 x3 x4 x5 x6 h) Q) : gz_Ok G mX9_walk (d + 4, l0, s0, 0, 0) 111 [.ref a0, .int x1, .int x2, .int x3, .int x4, .int x5, .int x6, .retAddr 0] [] h (gz_qi Q) := by
  unfold fX9_walk_111 at hf
  refine gz_iconst (v := (0 : Int32)) (pc := 111) dX9_walk_111 rfl ?_
  exact sX9_walk_112 hk36 a0 x1 x2 x3 x4 x5 x6 (0 : Int32) h hf
def fX9_walk_62 (k36 : Nat → Int32 → Int32 → Int32 → Int32 → Int32 → gz_H → Option (Int32 × gz_H)) (a0 : Nat) (x1 : Int32) (x2 : Int32) (x3 : Int32) (x4 : Int32) (x5 : Int32) (w0 : Int32) (h : gz_H) : Option (Int32 × gz_H) :=
    if x4 = (-9 : Int32) then (
     fX9_walk_107 k36 a0 x1 x2 x3 x4 x5 w0 h
    ) else (
     gz_b2 (fX9_bits x5 h) fun y_3 h_2 =>
     gz_b2 (fX9_bits x4 h_2) fun y_5 h_4 =>
     if y_3 < y_5 then (
      fX9_walk_107 k36 a0 x1 x2 x3 x4 x5 w0 h_4
     ) else (
      gz_b2 (fX9_bits x5 h_4) fun y_8 h_7 =>
      gz_b2 (fX9_bits x4 h_7) fun y_10 h_9 =>
      if y_8 = y_10 then (
       gz_b2 (fX9_isAhead x5 x4 h_9) fun y_13 h_12 =>
       if y_13 = 0 then (
        fX9_walk_111 k36 a0 x1 x2 x3 x4 x5 w0 h_12
       ) else (
        fX9_walk_107 k36 a0 x1 x2 x3 x4 x5 w0 h_12
       )
      ) else (
       fX9_walk_111 k36 a0 x1 x2 x3 x4 x5 w0 h_9
      )
     )
    )
set_option maxRecDepth 100000 in
set_option maxHeartbeats 1000000 in
theorem sX9_walk_62 {G : gz_G} {d l0 s0 : Nat} {Q : Int32 → gz_H → Prop} {k36 : Nat → Int32 → Int32 → Int32 → Int32 → Int32 → gz_H → Option (Int32 × gz_H)} (hk36 : ∀ (a0 : Nat) (x1 : Int32) (x2 : Int32) (x3 : Int32) (x4 : Int32) (x5 : Int32) (h : gz_H), gz_g (k36 a0 x1 x2 x3 x4 x5 h) Q → gz_Ok G mX9_walk (d + 4, l0, s0, 0, 0) 36 [.ref a0, .int x1, .int x2, .int x3, .int x4, .int x5, .retAddr 0, .retAddr 0] [] h (gz_qi Q)) (a0 : Nat) (x1 : Int32) (x2 : Int32) (x3 : Int32) (x4 : Int32) (x5 : Int32) (w0 : Int32) (h : gz_H) (hf : gz_g (fX9_walk_62 k36 a0 x1 x2 x3 x4 x5 w0 h) Q) : gz_Ok G mX9_walk (d + 4, l0, s0, 0, 0) 62 [.ref a0, .int x1, .int x2, .int x3, .int x4, .int x5, .retAddr 0, .retAddr 0] [.int w0] h (gz_qi Q) := by
  unfold fX9_walk_62 at hf
  refine gz_istore (lv := [.ref a0, .int x1, .int x2, .int x3, .int x4, .int x5, .int w0, .retAddr 0]) (pc := 62) dX9_walk_62 (by decide) rfl ?_
  refine gz_iload (pc := 64) dX9_walk_64 rfl ?_
  refine gz_bipush (v := (-9 : Int32)) (pc := 66) dX9_walk_66 rfl ?_
  refine gz_icmp_eq (tgt := 107) (pc := 68) dX9_walk_68 rfl (fun c_1 => ?_) (fun c_1 => ?_)
  · have hf := gz_gT hf c_1
    exact sX9_walk_107 hk36 a0 x1 x2 x3 x4 x5 w0 h hf
  · have hf := gz_gF hf c_1
    refine gz_iload (pc := 71) dX9_walk_71 rfl ?_
    refine gz_cSI (av := [.int x5]) (st := []) (pc := 73) dX9_walk_73 kl_RX9_193 rfl rfl (Nat.le_of_ble_eq_true rfl) (by show d + 3 + 0 + 1 ≤ d + 4; omega) (sX9_bits (d := d + 3) (gz_gc hf)) (fun y_3 h_2 hf => ?_)
    refine gz_iload (pc := 76) dX9_walk_76 rfl ?_
    refine gz_cSI (av := [.int x4]) (st := [.int y_3]) (pc := 78) dX9_walk_78 kl_RX9_193 rfl rfl (Nat.le_of_ble_eq_true rfl) (by show d + 3 + 0 + 1 ≤ d + 4; omega) (sX9_bits (d := d + 3) (gz_gc hf)) (fun y_5 h_4 hf => ?_)
    refine gz_icmp_lt (tgt := 107) (pc := 81) dX9_walk_81 rfl (fun c_6 => ?_) (fun c_6 => ?_)
    · have hf := gz_gT hf c_6
      exact sX9_walk_107 hk36 a0 x1 x2 x3 x4 x5 w0 h_4 hf
    · have hf := gz_gF hf c_6
      refine gz_iload (pc := 84) dX9_walk_84 rfl ?_
      refine gz_cSI (av := [.int x5]) (st := []) (pc := 86) dX9_walk_86 kl_RX9_193 rfl rfl (Nat.le_of_ble_eq_true rfl) (by show d + 3 + 0 + 1 ≤ d + 4; omega) (sX9_bits (d := d + 3) (gz_gc hf)) (fun y_8 h_7 hf => ?_)
      refine gz_iload (pc := 89) dX9_walk_89 rfl ?_
      refine gz_cSI (av := [.int x4]) (st := [.int y_8]) (pc := 91) dX9_walk_91 kl_RX9_193 rfl rfl (Nat.le_of_ble_eq_true rfl) (by show d + 3 + 0 + 1 ≤ d + 4; omega) (sX9_bits (d := d + 3) (gz_gc hf)) (fun y_10 h_9 hf => ?_)
      refine gz_icmp_ne (tgt := 111) (pc := 94) dX9_walk_94 rfl (fun c_11 => ?_) (fun c_11 => ?_)
      · have hf := gz_gF hf c_11
        exact sX9_walk_111 hk36 a0 x1 x2 x3 x4 x5 w0 h_9 hf
      · have hf := gz_gT hf c_11
        refine gz_iload (pc := 97) dX9_walk_97 rfl ?_
        refine gz_iload (pc := 99) dX9_walk_99 rfl ?_
        refine gz_cSI (av := [.int x5, .int x4]) (st := []) (pc := 101) dX9_walk_101 kl_RX9_266 rfl rfl (Nat.le_of_ble_eq_true rfl) (by show d + 3 + 0 + 1 ≤ d + 4; omega) (sX9_isAhead (d := d + 3) (gz_gc hf)) (fun y_13 h_12 hf => ?_)
        refine gz_if_eq (tgt := 111) (pc := 104) dX9_walk_104 rfl (fun c_14 => ?_) (fun c_14 => ?_)
        · have hf := gz_gT hf c_14
          exact sX9_walk_111 hk36 a0 x1 x2 x3 x4 x5 w0 h_12 hf
        · have hf := gz_gF hf c_14
          exact sX9_walk_107 hk36 a0 x1 x2 x3 x4 x5 w0 h_12 hf
def fX9_walk_199 (k165 : Nat → Int32 → Int32 → Int32 → Int32 → gz_H → Option (Int32 × gz_H)) (a0 : Nat) (x3 : Int32) (x4 : Int32) (x5 : Int32) (x6 : Int32) (h : gz_H) : Option (Int32 × gz_H) :=
    k165 a0 x3 x4 x5 (x6 + 1) h
set_option maxRecDepth 100000 in
set_option maxHeartbeats 1000000 in
theorem sX9_walk_199 {G : gz_G} {d l0 s0 : Nat} {Q : Int32 → gz_H → Prop} {k165 : Nat → Int32 → Int32 → Int32 → Int32 → gz_H → Option (Int32 × gz_H)} (hk165 : ∀ (a0 : Nat) (x3 : Int32) (x4 : Int32) (x5 : Int32) (x6 : Int32) (h : gz_H), gz_g (k165 a0 x3 x4 x5 x6 h) Q → gz_Ok G mX9_walk (d + 4, l0, s0, 0, 0) 165 [.ref a0, .retAddr 0, .retAddr 0, .int x3, .int x4, .int x5, .int x6, .retAddr 0] [] h (gz_qi Q)) (a0 : Nat) (x3 : Int32) (x4 : Int32) (x5 : Int32) (x6 : Int32) (h : gz_H) (hf : gz_g (fX9_walk_199 k165 a0 x3 x4 x5 x6 h) Q) : gz_Ok G mX9_walk (d + 4, l0, s0, 0, 0) 199 [.ref a0, .retAddr 0, .retAddr 0, .int x3, .int x4, .int x5, .int x6, .retAddr 0] [] h (gz_qi Q) := by
  unfold fX9_walk_199 at hf
  refine gz_iinc (v := x6 + 1) (lv := [.ref a0, .retAddr 0, .retAddr 0, .int x3, .int x4, .int x5, .int (x6 + 1), .retAddr 0]) (pc := 199) dX9_walk_199 rfl rfl (by decide) rfl ?_
  refine gz_goto (tgt := 165) (pc := 202) dX9_walk_202 rfl ?_
  exact hk165 a0 x3 x4 x5 (x6 + 1) h hf
def fX9_walk_165  : Nat → Nat → Int32 → Int32 → Int32 → Int32 → gz_H → Option (Int32 × gz_H)
  | 0, _, _, _, _, _, _ => none
  | n + 1, a0, x3, x4, x5, x6, h =>
    if (6 : Int32) ≤ x6 then (
     some (x5, h)
    ) else (
     gz_b2 (fX9_has x4 x6 h) fun y_3 h_2 =>
     if y_3 = 0 then (
      fX9_walk_199 (fun z0 z1 z2 z3 z4 zh => fX9_walk_165 n z0 z1 z2 z3 z4 zh) a0 x3 x4 x5 x6 h_2
     ) else (
      gz_ck (gz_sh h_2 a0 9 29) <|
      gz_br (h_2.2.2.2 a0 8) fun r_6 =>
      gz_ck (gz_inb h_2 r_6 10 (((40 : Int32) * x3) + x5)) <|
      gz_lt (uI h_2 r_6 (((40 : Int32) * x3) + x5).toNatClampNeg x6) fun h_8 =>
      fX9_walk_199 (fun z0 z1 z2 z3 z4 zh => fX9_walk_165 n z0 z1 z2 z3 z4 zh) a0 x3 x4 (x5 + 1) x6 h_8
     )
    )
set_option maxRecDepth 100000 in
set_option maxHeartbeats 1000000 in
theorem sX9_walk_165 {G : gz_G} {d l0 s0 : Nat} {Q : Int32 → gz_H → Prop} : ∀ (n : Nat) (a0 : Nat) (x3 : Int32) (x4 : Int32) (x5 : Int32) (x6 : Int32) (h : gz_H), gz_g (fX9_walk_165  n a0 x3 x4 x5 x6 h) Q → gz_Ok G mX9_walk (d + 4, l0, s0, 0, 0) 165 [.ref a0, .retAddr 0, .retAddr 0, .int x3, .int x4, .int x5, .int x6, .retAddr 0] [] h (gz_qi Q) := by
  intro n
  induction n with
  | zero => intro a0 x3 x4 x5 x6 h hf; exact False.elim hf
  | succ n ih =>
    intro a0 x3 x4 x5 x6 h hf
    rw [fX9_walk_165] at hf
    refine gz_iload (pc := 165) dX9_walk_165 rfl ?_
    refine gz_bipush (v := (6 : Int32)) (pc := 167) dX9_walk_167 rfl ?_
    refine gz_icmp_ge (tgt := 205) (pc := 169) dX9_walk_169 rfl (fun c_1 => ?_) (fun c_1 => ?_)
    · have hf := gz_gT hf c_1
      refine gz_iload (pc := 205) dX9_walk_205 rfl ?_
      exact gz_irt (pc := 207) dX9_walk_207 rfl rfl hf
    · have hf := gz_gF hf c_1
      refine gz_iload (pc := 172) dX9_walk_172 rfl ?_
      refine gz_iload (pc := 174) dX9_walk_174 rfl ?_
      refine gz_cSI (av := [.int x4, .int x6]) (st := []) (pc := 176) dX9_walk_176 kl_RX9_142 rfl rfl (Nat.le_of_ble_eq_true rfl) (by show d + 3 + 0 + 1 ≤ d + 4; omega) (sX9_has (d := d + 3) (gz_gc hf)) (fun y_3 h_2 hf => ?_)
      refine gz_if_eq (tgt := 199) (pc := 179) dX9_walk_179 rfl (fun c_4 => ?_) (fun c_4 => ?_)
      · have hf := gz_gT hf c_4
        exact sX9_walk_199 ih a0 x3 x4 x5 x6 h_2 hf
      · have hf := gz_gF hf c_4
        refine gz_aload_n (pc := 182) dX9_walk_182 rfl rfl ?_
        refine gz_gk hf (fun c_5 hf => ?_)
        refine gz_gb hf (fun r_6 er_6 hf => ?_)
        refine gz_getR (pc := 183) dX9_walk_183 fl_RX9_28 rfl (gz_shs c_5) er_6 ?_
        refine gz_bipush (v := (40 : Int32)) (pc := 186) dX9_walk_186 rfl ?_
        refine gz_iload_n (pc := 188) dX9_walk_188 rfl rfl ?_
        refine gz_imul (pc := 189) dX9_walk_189 ?_
        refine gz_iload (pc := 190) dX9_walk_190 rfl ?_
        refine gz_iadd (pc := 192) dX9_walk_192 ?_
        refine gz_iload (pc := 193) dX9_walk_193 rfl ?_
        refine gz_gk hf (fun c_7 hf => ?_)
        refine gz_iast (pc := 195) dX9_walk_195 c_7 ?_
        refine gz_nmH (fun h_8 eh_8 => ?_)
        have hf := gz_gl eh_8 hf
        refine gz_iinc (v := x5 + 1) (lv := [.ref a0, .retAddr 0, .retAddr 0, .int x3, .int x4, .int (x5 + 1), .int x6, .retAddr 0]) (pc := 196) dX9_walk_196 rfl rfl (by decide) rfl ?_
        exact sX9_walk_199 ih a0 x3 x4 (x5 + 1) x6 h_8 hf
def fX9_walk_36  : Nat → Nat → Int32 → Int32 → Int32 → Int32 → Int32 → gz_H → Option (Int32 × gz_H)
  | 0, _, _, _, _, _, _, _ => none
  | n + 1, a0, x1, x2, x3, x4, x5, h =>
    if (64 : Int32) ≤ x5 then (
     if x4 = (-9 : Int32) then (
      some ((-9 : Int32), h)
     ) else (
      gz_b2 (fX9_bits x4 h) fun y_4 h_3 =>
      gz_ck (gz_sh h_3 a0 9 29) <|
      gz_b2 (fX9_makeRow a0 x3 y_4 h_3) fun _ h_5 =>
      fX9_walk_165 gz_fu a0 x3 x4 (0 : Int32) (0 : Int32) h_5
     )
    ) else (
     gz_ck (gz_sh h a0 9 29) <|
     gz_b2 (fX9_saidBy a0 x1 x5 h) fun y_9 h_8 =>
     if (x2 &&& (y_9 ^^^ (-1 : Int32))) = 0 then (
      fX9_walk_62 (fun z0 z1 z2 z3 z4 z5 zh => fX9_walk_36 n z0 z1 z2 z3 z4 z5 zh) a0 x1 x2 x3 x4 x5 (1 : Int32) h_8
     ) else (
      fX9_walk_62 (fun z0 z1 z2 z3 z4 z5 zh => fX9_walk_36 n z0 z1 z2 z3 z4 z5 zh) a0 x1 x2 x3 x4 x5 (0 : Int32) h_8
     )
    )
set_option maxRecDepth 100000 in
set_option maxHeartbeats 1000000 in
theorem sX9_walk_36 {G : gz_G} {d l0 s0 : Nat} {Q : Int32 → gz_H → Prop} : ∀ (n : Nat) (a0 : Nat) (x1 : Int32) (x2 : Int32) (x3 : Int32) (x4 : Int32) (x5 : Int32) (h : gz_H), gz_g (fX9_walk_36  n a0 x1 x2 x3 x4 x5 h) Q → gz_Ok G mX9_walk (d + 4, l0, s0, 0, 0) 36 [.ref a0, .int x1, .int x2, .int x3, .int x4, .int x5, .retAddr 0, .retAddr 0] [] h (gz_qi Q) := by
  intro n
  induction n with
  | zero => intro a0 x1 x2 x3 x4 x5 h hf; exact False.elim hf
  | succ n ih =>
    intro a0 x1 x2 x3 x4 x5 h hf
    rw [fX9_walk_36] at hf
    refine gz_iload (pc := 36) dX9_walk_36 rfl ?_
    refine gz_bipush (v := (64 : Int32)) (pc := 38) dX9_walk_38 rfl ?_
    refine gz_icmp_ge (tgt := 139) (pc := 40) dX9_walk_40 rfl (fun c_1 => ?_) (fun c_1 => ?_)
    · have hf := gz_gT hf c_1
      refine gz_iload (pc := 139) dX9_walk_139 rfl ?_
      refine gz_bipush (v := (-9 : Int32)) (pc := 141) dX9_walk_141 rfl ?_
      refine gz_icmp_ne (tgt := 149) (pc := 143) dX9_walk_143 rfl (fun c_2 => ?_) (fun c_2 => ?_)
      · have hf := gz_gF hf c_2
        refine gz_aload_n (pc := 149) dX9_walk_149 rfl rfl ?_
        refine gz_iload_n (pc := 150) dX9_walk_150 rfl rfl ?_
        refine gz_iload (pc := 151) dX9_walk_151 rfl ?_
        refine gz_cSI (av := [.int x4]) (st := [.int x3, .ref a0]) (pc := 153) dX9_walk_153 kl_RX9_193 rfl rfl (Nat.le_of_ble_eq_true rfl) (by show d + 3 + 0 + 1 ≤ d + 4; omega) (sX9_bits (d := d + 3) (gz_gc hf)) (fun y_4 h_3 hf => ?_)
        refine gz_gk hf (fun c_7 hf => ?_)
        refine gz_cVV (av := [.int x3, .int y_4]) (st := []) (pc := 156) dX9_walk_156 kl_RX9_88 rfl (gz_shs c_7) rfl rfl (Nat.le_of_ble_eq_true rfl) (by show d + 3 + 0 + 1 ≤ d + 4; omega) (sX9_makeRow (d := d + 3) (gz_gc hf)) (fun _ h_5 hf => ?_)
        refine gz_iconst (v := (0 : Int32)) (pc := 159) dX9_walk_159 rfl ?_
        refine gz_istore (lv := [.ref a0, .int x1, .int x2, .int x3, .int x4, .int (0 : Int32), .retAddr 0, .retAddr 0]) (pc := 160) dX9_walk_160 (by decide) rfl ?_
        refine gz_iconst (v := (0 : Int32)) (pc := 162) dX9_walk_162 rfl ?_
        refine gz_istore (lv := [.ref a0, .int x1, .int x2, .int x3, .int x4, .int (0 : Int32), .int (0 : Int32), .retAddr 0]) (pc := 163) dX9_walk_163 (by decide) rfl ?_
        refine gz_fg (lv := [.ref a0, .retAddr 0, .retAddr 0, .int x3, .int x4, .int (0 : Int32), .int (0 : Int32), .retAddr 0]) ⟨Or.inr rfl, ⟨Or.inl rfl, ⟨Or.inl rfl, ⟨Or.inr rfl, ⟨Or.inr rfl, ⟨Or.inr rfl, ⟨Or.inr rfl, ⟨Or.inl rfl, trivial⟩⟩⟩⟩⟩⟩⟩⟩ ?_
        exact sX9_walk_165 gz_fu a0 x3 x4 (0 : Int32) (0 : Int32) h_5 hf
      · have hf := gz_gT hf c_2
        refine gz_bipush (v := (-9 : Int32)) (pc := 146) dX9_walk_146 rfl ?_
        exact gz_irt (pc := 148) dX9_walk_148 rfl rfl hf
    · have hf := gz_gF hf c_1
      refine gz_iload_n (pc := 43) dX9_walk_43 rfl rfl ?_
      refine gz_aload_n (pc := 44) dX9_walk_44 rfl rfl ?_
      refine gz_iload_n (pc := 45) dX9_walk_45 rfl rfl ?_
      refine gz_iload (pc := 46) dX9_walk_46 rfl ?_
      refine gz_gk hf (fun c_10 hf => ?_)
      refine gz_cVI (av := [.int x1, .int x5]) (st := [.int x2]) (pc := 48) dX9_walk_48 kl_RX9_263 rfl (gz_shs c_10) rfl rfl (Nat.le_of_ble_eq_true rfl) (by show d + 2 + 1 + 1 ≤ d + 4; omega) (sX9_saidBy (d := d + 2) (gz_gc hf)) (fun y_9 h_8 hf => ?_)
      refine gz_iconst (v := (-1 : Int32)) (pc := 51) dX9_walk_51 rfl ?_
      refine gz_ixor (pc := 52) dX9_walk_52 ?_
      refine gz_iand (pc := 53) dX9_walk_53 ?_
      refine gz_if_ne (tgt := 61) (pc := 54) dX9_walk_54 rfl (fun c_11 => ?_) (fun c_11 => ?_)
      · have hf := gz_gF hf c_11
        refine gz_iconst (v := (0 : Int32)) (pc := 61) dX9_walk_61 rfl ?_
        exact sX9_walk_62 ih a0 x1 x2 x3 x4 x5 (0 : Int32) h_8 hf
      · have hf := gz_gT hf c_11
        refine gz_iconst (v := (1 : Int32)) (pc := 57) dX9_walk_57 rfl ?_
        refine gz_goto (tgt := 62) (pc := 58) dX9_walk_58 rfl ?_
        exact sX9_walk_62 ih a0 x1 x2 x3 x4 x5 (1 : Int32) h_8 hf
def fX9_walk_0  (a0 : Nat) (x1 : Int32) (x2 : Int32) (x3 : Int32) (h : gz_H) : Option (Int32 × gz_H) :=
    gz_ck (gz_sh h a0 9 29) <|
    gz_b2 (fX9_isGoose a0 x1 h) fun y_2 h_1 =>
    if y_2 = 0 then (
     some ((-1 : Int32), h_1)
    ) else (
     gz_ck (gz_sh h_1 a0 9 29) <|
     gz_b2 (fX9_isSet a0 x2 h_1) fun y_6 h_5 =>
     if y_6 = 0 then (
      some ((-1 : Int32), h_5)
     ) else (
      gz_b2 (fX9_isRow x3 h_5) fun y_10 h_9 =>
      if y_10 = 0 then (
       some ((-1 : Int32), h_9)
      ) else (
       gz_ck (gz_sh h_9 a0 9 29) <|
       gz_b2 (fX9_laySays a0 h_9) fun _ h_12 =>
       fX9_walk_36 gz_fu a0 x1 x2 x3 (-9 : Int32) (0 : Int32) h_12
      )
     )
    )
set_option maxRecDepth 100000 in
set_option maxHeartbeats 1000000 in
theorem sX9_walk_0 {G : gz_G} {d l0 s0 : Nat} {Q : Int32 → gz_H → Prop} (a0 : Nat) (x1 : Int32) (x2 : Int32) (x3 : Int32) (h : gz_H) (hf : gz_g (fX9_walk_0  a0 x1 x2 x3 h) Q) : gz_Ok G mX9_walk (d + 4, l0, s0, 0, 0) 0 [.ref a0, .int x1, .int x2, .int x3, .retAddr 0, .retAddr 0, .retAddr 0, .retAddr 0] [] h (gz_qi Q) := by
  unfold fX9_walk_0 at hf
  refine gz_aload_n (pc := 0) dX9_walk_0 rfl rfl ?_
  refine gz_iload_n (pc := 1) dX9_walk_1 rfl rfl ?_
  refine gz_gk hf (fun c_3 hf => ?_)
  refine gz_cVI (av := [.int x1]) (st := []) (pc := 2) dX9_walk_2 kl_RX9_196 rfl (gz_shs c_3) rfl rfl (Nat.le_of_ble_eq_true rfl) (by show d + 2 + 1 + 1 ≤ d + 4; omega) (sX9_isGoose (d := d + 2) (gz_gc hf)) (fun y_2 h_1 hf => ?_)
  refine gz_if_eq (tgt := 23) (pc := 5) dX9_walk_5 rfl (fun c_4 => ?_) (fun c_4 => ?_)
  · have hf := gz_gT hf c_4
    refine gz_iconst (v := (-1 : Int32)) (pc := 23) dX9_walk_23 rfl ?_
    exact gz_irt (pc := 24) dX9_walk_24 rfl rfl hf
  · have hf := gz_gF hf c_4
    refine gz_aload_n (pc := 8) dX9_walk_8 rfl rfl ?_
    refine gz_iload_n (pc := 9) dX9_walk_9 rfl rfl ?_
    refine gz_gk hf (fun c_7 hf => ?_)
    refine gz_cVI (av := [.int x2]) (st := []) (pc := 10) dX9_walk_10 kl_RX9_257 rfl (gz_shs c_7) rfl rfl (Nat.le_of_ble_eq_true rfl) (by show d + 2 + 1 + 1 ≤ d + 4; omega) (sX9_isSet (d := d + 2) (gz_gc hf)) (fun y_6 h_5 hf => ?_)
    refine gz_if_eq (tgt := 23) (pc := 13) dX9_walk_13 rfl (fun c_8 => ?_) (fun c_8 => ?_)
    · have hf := gz_gT hf c_8
      refine gz_iconst (v := (-1 : Int32)) (pc := 23) dX9_walk_23 rfl ?_
      exact gz_irt (pc := 24) dX9_walk_24 rfl rfl hf
    · have hf := gz_gF hf c_8
      refine gz_iload_n (pc := 16) dX9_walk_16 rfl rfl ?_
      refine gz_cSI (av := [.int x3]) (st := []) (pc := 17) dX9_walk_17 kl_RX9_80 rfl rfl (Nat.le_of_ble_eq_true rfl) (by show d + 2 + 1 + 1 ≤ d + 4; omega) (sX9_isRow (d := d + 2) (gz_gc hf)) (fun y_10 h_9 hf => ?_)
      refine gz_if_ne (tgt := 25) (pc := 20) dX9_walk_20 rfl (fun c_11 => ?_) (fun c_11 => ?_)
      · have hf := gz_gF hf c_11
        refine gz_aload_n (pc := 25) dX9_walk_25 rfl rfl ?_
        refine gz_gk hf (fun c_14 hf => ?_)
        refine gz_cVV (av := []) (st := []) (pc := 26) dX9_walk_26 kl_RX9_260 rfl (gz_shs c_14) rfl rfl (Nat.le_of_ble_eq_true rfl) (by show d + 0 + 3 + 1 ≤ d + 4; omega) (sX9_laySays (d := d + 0) (gz_gc hf)) (fun _ h_12 hf => ?_)
        refine gz_bipush (v := (-9 : Int32)) (pc := 29) dX9_walk_29 rfl ?_
        refine gz_istore (lv := [.ref a0, .int x1, .int x2, .int x3, .int (-9 : Int32), .retAddr 0, .retAddr 0, .retAddr 0]) (pc := 31) dX9_walk_31 (by decide) rfl ?_
        refine gz_iconst (v := (0 : Int32)) (pc := 33) dX9_walk_33 rfl ?_
        refine gz_istore (lv := [.ref a0, .int x1, .int x2, .int x3, .int (-9 : Int32), .int (0 : Int32), .retAddr 0, .retAddr 0]) (pc := 34) dX9_walk_34 (by decide) rfl ?_
        exact sX9_walk_36 gz_fu a0 x1 x2 x3 (-9 : Int32) (0 : Int32) h_12 hf
      · have hf := gz_gT hf c_11
        refine gz_iconst (v := (-1 : Int32)) (pc := 23) dX9_walk_23 rfl ?_
        exact gz_irt (pc := 24) dX9_walk_24 rfl rfl hf
def fX9_walk (a0 : Nat) (x1 : Int32) (x2 : Int32) (x3 : Int32) (h : gz_H) : Option (Int32 × gz_H) := fX9_walk_0 a0 x1 x2 x3 h
theorem sX9_walk {G : gz_G} {d : Nat} {a0 : Nat} {x1 : Int32} {x2 : Int32} {x3 : Int32} {h : gz_H} {Q : Int32 → gz_H → Prop} (hf : gz_g (fX9_walk a0 x1 x2 x3 h) Q) : gz_Cl G mX9_walk (d + 4) 0 0 [.ref a0, .int x1, .int x2, .int x3] h (gz_qi Q) := gz_cl_of (lo := [.ref a0, .int x1, .int x2, .int x3, .retAddr 0, .retAddr 0, .retAddr 0, .retAddr 0]) (by decide) rfl rfl (Nat.le_of_ble_eq_true rfl) (sX9_walk_0 a0 x1 x2 x3 h hf)
theorem dX9_crew_0 : decode cX9_crew 0 = .ok (.aload_n 0, 1) := by decide +kernel
theorem dX9_crew_1 : decode cX9_crew 1 = .ok (.iload_n 1, 1) := by decide +kernel
theorem dX9_crew_2 : decode cX9_crew 2 = .ok (.invokevirtual 257, 3) := by decide +kernel
theorem dX9_crew_5 : decode cX9_crew 5 = .ok (.ifCond .ne 5, 3) := by decide +kernel
theorem dX9_crew_8 : decode cX9_crew 8 = .ok (.iconst (-1), 1) := by decide +kernel
theorem dX9_crew_9 : decode cX9_crew 9 = .ok (.ireturn, 1) := by decide +kernel
theorem dX9_crew_10 : decode cX9_crew 10 = .ok (.bipush (-9), 2) := by decide +kernel
theorem dX9_crew_12 : decode cX9_crew 12 = .ok (.istore_n 2, 1) := by decide +kernel
theorem dX9_crew_13 : decode cX9_crew 13 = .ok (.iconst 0, 1) := by decide +kernel
theorem dX9_crew_14 : decode cX9_crew 14 = .ok (.istore_n 3, 1) := by decide +kernel
theorem dX9_crew_15 : decode cX9_crew 15 = .ok (.iload_n 3, 1) := by decide +kernel
theorem dX9_crew_16 : decode cX9_crew 16 = .ok (.iconst 1, 1) := by decide +kernel
theorem dX9_crew_17 : decode cX9_crew 17 = .ok (.aload_n 0, 1) := by decide +kernel
theorem dX9_crew_18 : decode cX9_crew 18 = .ok (.getfield 158, 3) := by decide +kernel
theorem dX9_crew_21 : decode cX9_crew 21 = .ok (.ishl, 1) := by decide +kernel
theorem dX9_crew_22 : decode cX9_crew 22 = .ok (.if_icmp .ge 56, 3) := by decide +kernel
theorem dX9_crew_25 : decode cX9_crew 25 = .ok (.iload_n 2, 1) := by decide +kernel
theorem dX9_crew_26 : decode cX9_crew 26 = .ok (.bipush (-9), 2) := by decide +kernel
theorem dX9_crew_28 : decode cX9_crew 28 = .ok (.if_icmp .eq 14, 3) := by decide +kernel
theorem dX9_crew_31 : decode cX9_crew 31 = .ok (.iload_n 3, 1) := by decide +kernel
theorem dX9_crew_32 : decode cX9_crew 32 = .ok (.invokestatic 193, 3) := by decide +kernel
theorem dX9_crew_35 : decode cX9_crew 35 = .ok (.iload_n 2, 1) := by decide +kernel
theorem dX9_crew_36 : decode cX9_crew 36 = .ok (.invokestatic 193, 3) := by decide +kernel
theorem dX9_crew_39 : decode cX9_crew 39 = .ok (.if_icmp .ge 7, 3) := by decide +kernel
theorem dX9_crew_42 : decode cX9_crew 42 = .ok (.iconst 1, 1) := by decide +kernel
theorem dX9_crew_43 : decode cX9_crew 43 = .ok (.goto 4, 3) := by decide +kernel
theorem dX9_crew_46 : decode cX9_crew 46 = .ok (.iconst 0, 1) := by decide +kernel
theorem dX9_crew_47 : decode cX9_crew 47 = .ok (.istore 4, 2) := by decide +kernel
theorem dX9_crew_49 : decode cX9_crew 49 = .ok (.iload 4, 2) := by decide +kernel
theorem dX9_crew_51 : decode cX9_crew 51 = .ok (.ifCond .eq 19, 3) := by decide +kernel
theorem dX9_crew_54 : decode cX9_crew 54 = .ok (.iload_n 1, 1) := by decide +kernel
theorem dX9_crew_55 : decode cX9_crew 55 = .ok (.aload_n 0, 1) := by decide +kernel
theorem dX9_crew_56 : decode cX9_crew 56 = .ok (.iload_n 3, 1) := by decide +kernel
theorem dX9_crew_57 : decode cX9_crew 57 = .ok (.invokevirtual 248, 3) := by decide +kernel
theorem dX9_crew_60 : decode cX9_crew 60 = .ok (.iconst (-1), 1) := by decide +kernel
theorem dX9_crew_61 : decode cX9_crew 61 = .ok (.ixor, 1) := by decide +kernel
theorem dX9_crew_62 : decode cX9_crew 62 = .ok (.iand, 1) := by decide +kernel
theorem dX9_crew_63 : decode cX9_crew 63 = .ok (.ifCond .ne 7, 3) := by decide +kernel
theorem dX9_crew_66 : decode cX9_crew 66 = .ok (.iload_n 3, 1) := by decide +kernel
theorem dX9_crew_67 : decode cX9_crew 67 = .ok (.goto 4, 3) := by decide +kernel
theorem dX9_crew_70 : decode cX9_crew 70 = .ok (.iload_n 2, 1) := by decide +kernel
theorem dX9_crew_71 : decode cX9_crew 71 = .ok (.istore_n 2, 1) := by decide +kernel
theorem dX9_crew_72 : decode cX9_crew 72 = .ok (.iinc 3 1, 3) := by decide +kernel
theorem dX9_crew_75 : decode cX9_crew 75 = .ok (.goto (-60), 3) := by decide +kernel
theorem dX9_crew_78 : decode cX9_crew 78 = .ok (.aload_n 0, 1) := by decide +kernel
theorem dX9_crew_79 : decode cX9_crew 79 = .ok (.iload_n 2, 1) := by decide +kernel
theorem dX9_crew_80 : decode cX9_crew 80 = .ok (.bipush (-9), 2) := by decide +kernel
theorem dX9_crew_82 : decode cX9_crew 82 = .ok (.if_icmp .ne 10, 3) := by decide +kernel
theorem dX9_crew_85 : decode cX9_crew 85 = .ok (.aload_n 0, 1) := by decide +kernel
theorem dX9_crew_86 : decode cX9_crew 86 = .ok (.getfield 69, 3) := by decide +kernel
theorem dX9_crew_89 : decode cX9_crew 89 = .ok (.goto 4, 3) := by decide +kernel
theorem dX9_crew_92 : decode cX9_crew 92 = .ok (.iload_n 2, 1) := by decide +kernel
theorem dX9_crew_93 : decode cX9_crew 93 = .ok (.putfield 69, 3) := by decide +kernel
theorem dX9_crew_96 : decode cX9_crew 96 = .ok (.iload_n 2, 1) := by decide +kernel
theorem dX9_crew_97 : decode cX9_crew 97 = .ok (.bipush (-9), 2) := by decide +kernel
theorem dX9_crew_99 : decode cX9_crew 99 = .ok (.if_icmp .ne 8, 3) := by decide +kernel
theorem dX9_crew_102 : decode cX9_crew 102 = .ok (.bipush (-9), 2) := by decide +kernel
theorem dX9_crew_104 : decode cX9_crew 104 = .ok (.goto 7, 3) := by decide +kernel
theorem dX9_crew_107 : decode cX9_crew 107 = .ok (.iload_n 2, 1) := by decide +kernel
theorem dX9_crew_108 : decode cX9_crew 108 = .ok (.invokestatic 193, 3) := by decide +kernel
theorem dX9_crew_111 : decode cX9_crew 111 = .ok (.ireturn, 1) := by decide +kernel
def fX9_crew_71 (k15 : Nat → Int32 → Int32 → Int32 → gz_H → Option (Int32 × gz_H)) (a0 : Nat) (x1 : Int32) (x3 : Int32) (w0 : Int32) (h : gz_H) : Option (Int32 × gz_H) :=
    k15 a0 x1 w0 (x3 + 1) h
set_option maxRecDepth 100000 in
set_option maxHeartbeats 1000000 in
theorem sX9_crew_71 {G : gz_G} {d l0 s0 : Nat} {Q : Int32 → gz_H → Prop} {k15 : Nat → Int32 → Int32 → Int32 → gz_H → Option (Int32 × gz_H)} (hk15 : ∀ (a0 : Nat) (x1 : Int32) (x2 : Int32) (x3 : Int32) (h : gz_H), gz_g (k15 a0 x1 x2 x3 h) Q → gz_Ok G mX9_crew (d + 5, l0, s0, 0, 0) 15 [.ref a0, .int x1, .int x2, .int x3, .retAddr 0] [] h (gz_qi Q)) (a0 : Nat) (x1 : Int32) (x3 : Int32) (w0 : Int32) (h : gz_H) (hf : gz_g (fX9_crew_71 k15 a0 x1 x3 w0 h) Q) : gz_Ok G mX9_crew (d + 5, l0, s0, 0, 0) 71 [.ref a0, .int x1, .retAddr 0, .int x3, .retAddr 0] [.int w0] h (gz_qi Q) := by
  unfold fX9_crew_71 at hf
  refine gz_istore_n (lv := [.ref a0, .int x1, .int w0, .int x3, .retAddr 0]) (pc := 71) dX9_crew_71 rfl (by decide) rfl ?_
  refine gz_iinc (v := x3 + 1) (lv := [.ref a0, .int x1, .int w0, .int (x3 + 1), .retAddr 0]) (pc := 72) dX9_crew_72 rfl rfl (by decide) rfl ?_
  refine gz_goto (tgt := 15) (pc := 75) dX9_crew_75 rfl ?_
  exact hk15 a0 x1 w0 (x3 + 1) h hf
def fX9_crew_70 (k15 : Nat → Int32 → Int32 → Int32 → gz_H → Option (Int32 × gz_H)) (a0 : Nat) (x1 : Int32) (x2 : Int32) (x3 : Int32) (h : gz_H) : Option (Int32 × gz_H) :=
    fX9_crew_71 k15 a0 x1 x3 x2 h
set_option maxRecDepth 100000 in
set_option maxHeartbeats 1000000 in
theorem sX9_crew_70 {G : gz_G} {d l0 s0 : Nat} {Q : Int32 → gz_H → Prop} {k15 : Nat → Int32 → Int32 → Int32 → gz_H → Option (Int32 × gz_H)} (hk15 : ∀ (a0 : Nat) (x1 : Int32) (x2 : Int32) (x3 : Int32) (h : gz_H), gz_g (k15 a0 x1 x2 x3 h) Q → gz_Ok G mX9_crew (d + 5, l0, s0, 0, 0) 15 [.ref a0, .int x1, .int x2, .int x3, .retAddr 0] [] h (gz_qi Q)) (a0 : Nat) (x1 : Int32) (x2 : Int32) (x3 : Int32) (h : gz_H) (hf : gz_g (fX9_crew_70 k15 a0 x1 x2 x3 h) Q) : gz_Ok G mX9_crew (d + 5, l0, s0, 0, 0) 70 [.ref a0, .int x1, .int x2, .int x3, .retAddr 0] [] h (gz_qi Q) := by
  unfold fX9_crew_70 at hf
  refine gz_iload_n (pc := 70) dX9_crew_70 rfl rfl ?_
  refine gz_fg (lv := [.ref a0, .int x1, .retAddr 0, .int x3, .retAddr 0]) ⟨Or.inr rfl, ⟨Or.inr rfl, ⟨Or.inl rfl, ⟨Or.inr rfl, ⟨Or.inl rfl, trivial⟩⟩⟩⟩⟩ ?_
  exact sX9_crew_71 hk15 a0 x1 x3 x2 h hf
def fX9_crew_47 (k15 : Nat → Int32 → Int32 → Int32 → gz_H → Option (Int32 × gz_H)) (a0 : Nat) (x1 : Int32) (x2 : Int32) (x3 : Int32) (w0 : Int32) (h : gz_H) : Option (Int32 × gz_H) :=
    if w0 = 0 then (
     fX9_crew_70 k15 a0 x1 x2 x3 h
    ) else (
     gz_ck (gz_sh h a0 9 29) <|
     gz_b2 (fX9_toldByAll a0 x3 h) fun y_3 h_2 =>
     if (x1 &&& (y_3 ^^^ (-1 : Int32))) = 0 then (
      fX9_crew_71 k15 a0 x1 x3 x3 h_2
     ) else (
      fX9_crew_70 k15 a0 x1 x2 x3 h_2
     )
    )
set_option maxRecDepth 100000 in
set_option maxHeartbeats 1000000 in
theorem sX9_crew_47 {G : gz_G} {d l0 s0 : Nat} {Q : Int32 → gz_H → Prop} {k15 : Nat → Int32 → Int32 → Int32 → gz_H → Option (Int32 × gz_H)} (hk15 : ∀ (a0 : Nat) (x1 : Int32) (x2 : Int32) (x3 : Int32) (h : gz_H), gz_g (k15 a0 x1 x2 x3 h) Q → gz_Ok G mX9_crew (d + 5, l0, s0, 0, 0) 15 [.ref a0, .int x1, .int x2, .int x3, .retAddr 0] [] h (gz_qi Q)) (a0 : Nat) (x1 : Int32) (x2 : Int32) (x3 : Int32) (w0 : Int32) (h : gz_H) (hf : gz_g (fX9_crew_47 k15 a0 x1 x2 x3 w0 h) Q) : gz_Ok G mX9_crew (d + 5, l0, s0, 0, 0) 47 [.ref a0, .int x1, .int x2, .int x3, .retAddr 0] [.int w0] h (gz_qi Q) := by
  unfold fX9_crew_47 at hf
  refine gz_istore (lv := [.ref a0, .int x1, .int x2, .int x3, .int w0]) (pc := 47) dX9_crew_47 (by decide) rfl ?_
  refine gz_iload (pc := 49) dX9_crew_49 rfl ?_
  refine gz_if_eq (tgt := 70) (pc := 51) dX9_crew_51 rfl (fun c_1 => ?_) (fun c_1 => ?_)
  · have hf := gz_gT hf c_1
    refine gz_fg (lv := [.ref a0, .int x1, .int x2, .int x3, .retAddr 0]) ⟨Or.inr rfl, ⟨Or.inr rfl, ⟨Or.inr rfl, ⟨Or.inr rfl, ⟨Or.inl rfl, trivial⟩⟩⟩⟩⟩ ?_
    exact sX9_crew_70 hk15 a0 x1 x2 x3 h hf
  · have hf := gz_gF hf c_1
    refine gz_iload_n (pc := 54) dX9_crew_54 rfl rfl ?_
    refine gz_aload_n (pc := 55) dX9_crew_55 rfl rfl ?_
    refine gz_iload_n (pc := 56) dX9_crew_56 rfl rfl ?_
    refine gz_gk hf (fun c_4 hf => ?_)
    refine gz_cVI (av := [.int x3]) (st := [.int x1]) (pc := 57) dX9_crew_57 kl_RX9_248 rfl (gz_shs c_4) rfl rfl (Nat.le_of_ble_eq_true rfl) (by show d + 0 + 4 + 1 ≤ d + 5; omega) (sX9_toldByAll (d := d + 0) (gz_gc hf)) (fun y_3 h_2 hf => ?_)
    refine gz_iconst (v := (-1 : Int32)) (pc := 60) dX9_crew_60 rfl ?_
    refine gz_ixor (pc := 61) dX9_crew_61 ?_
    refine gz_iand (pc := 62) dX9_crew_62 ?_
    refine gz_if_ne (tgt := 70) (pc := 63) dX9_crew_63 rfl (fun c_5 => ?_) (fun c_5 => ?_)
    · have hf := gz_gF hf c_5
      refine gz_fg (lv := [.ref a0, .int x1, .int x2, .int x3, .retAddr 0]) ⟨Or.inr rfl, ⟨Or.inr rfl, ⟨Or.inr rfl, ⟨Or.inr rfl, ⟨Or.inl rfl, trivial⟩⟩⟩⟩⟩ ?_
      exact sX9_crew_70 hk15 a0 x1 x2 x3 h_2 hf
    · have hf := gz_gT hf c_5
      refine gz_iload_n (pc := 66) dX9_crew_66 rfl rfl ?_
      refine gz_goto (tgt := 71) (pc := 67) dX9_crew_67 rfl ?_
      refine gz_fg (lv := [.ref a0, .int x1, .retAddr 0, .int x3, .retAddr 0]) ⟨Or.inr rfl, ⟨Or.inr rfl, ⟨Or.inl rfl, ⟨Or.inr rfl, ⟨Or.inl rfl, trivial⟩⟩⟩⟩⟩ ?_
      exact sX9_crew_71 hk15 a0 x1 x3 x3 h_2 hf
def fX9_crew_42 (k15 : Nat → Int32 → Int32 → Int32 → gz_H → Option (Int32 × gz_H)) (a0 : Nat) (x1 : Int32) (x2 : Int32) (x3 : Int32) (h : gz_H) : Option (Int32 × gz_H) :=
    fX9_crew_47 k15 a0 x1 x2 x3 (1 : Int32) h
set_option maxRecDepth 100000 in
set_option maxHeartbeats 1000000 in
theorem sX9_crew_42 {G : gz_G} {d l0 s0 : Nat} {Q : Int32 → gz_H → Prop} {k15 : Nat → Int32 → Int32 → Int32 → gz_H → Option (Int32 × gz_H)} (hk15 : ∀ (a0 : Nat) (x1 : Int32) (x2 : Int32) (x3 : Int32) (h : gz_H), gz_g (k15 a0 x1 x2 x3 h) Q → gz_Ok G mX9_crew (d + 5, l0, s0, 0, 0) 15 [.ref a0, .int x1, .int x2, .int x3, .retAddr 0] [] h (gz_qi Q)) (a0 : Nat) (x1 : Int32) (x2 : Int32) (x3 : Int32) (h : gz_H) (hf : gz_g (fX9_crew_42 k15 a0 x1 x2 x3 h) Q) : gz_Ok G mX9_crew (d + 5, l0, s0, 0, 0) 42 [.ref a0, .int x1, .int x2, .int x3, .retAddr 0] [] h (gz_qi Q) := by
  unfold fX9_crew_42 at hf
  refine gz_iconst (v := (1 : Int32)) (pc := 42) dX9_crew_42 rfl ?_
  refine gz_goto (tgt := 47) (pc := 43) dX9_crew_43 rfl ?_
  exact sX9_crew_47 hk15 a0 x1 x2 x3 (1 : Int32) h hf
def fX9_crew_93  (x2 : Int32) (b0 : Nat) (w1 : Int32) (h : gz_H) : Option (Int32 × gz_H) :=
    gz_ck (gz_sh h b0 9 29) <|
    gz_lt (uI h b0 11 w1) fun h_2 =>
    if x2 = (-9 : Int32) then (
     some ((-9 : Int32), h_2)
    ) else (
     gz_b2 (fX9_bits x2 h_2) fun y_5 h_4 =>
     some (y_5, h_4)
    )
set_option maxRecDepth 100000 in
set_option maxHeartbeats 1000000 in
theorem sX9_crew_93 {G : gz_G} {d l0 s0 : Nat} {Q : Int32 → gz_H → Prop} (x2 : Int32) (b0 : Nat) (w1 : Int32) (h : gz_H) (hf : gz_g (fX9_crew_93  x2 b0 w1 h) Q) : gz_Ok G mX9_crew (d + 5, l0, s0, 0, 0) 93 [.retAddr 0, .retAddr 0, .int x2, .retAddr 0, .retAddr 0] [.int w1, .ref b0] h (gz_qi Q) := by
  unfold fX9_crew_93 at hf
  refine gz_gk hf (fun c_1 hf => ?_)
  refine gz_putI (pc := 93) dX9_crew_93 fw_X9_crew_69 rfl rfl rfl (gz_shs c_1) ?_
  refine gz_nmH (fun h_2 eh_2 => ?_)
  have hf := gz_gl eh_2 hf
  refine gz_iload_n (pc := 96) dX9_crew_96 rfl rfl ?_
  refine gz_bipush (v := (-9 : Int32)) (pc := 97) dX9_crew_97 rfl ?_
  refine gz_icmp_ne (tgt := 107) (pc := 99) dX9_crew_99 rfl (fun c_3 => ?_) (fun c_3 => ?_)
  · have hf := gz_gF hf c_3
    refine gz_iload_n (pc := 107) dX9_crew_107 rfl rfl ?_
    refine gz_cSI (av := [.int x2]) (st := []) (pc := 108) dX9_crew_108 kl_RX9_193 rfl rfl (Nat.le_of_ble_eq_true rfl) (by show d + 4 + 0 + 1 ≤ d + 5; omega) (sX9_bits (d := d + 4) (gz_gc hf)) (fun y_5 h_4 hf => ?_)
    exact gz_irt (pc := 111) dX9_crew_111 rfl rfl hf
  · have hf := gz_gT hf c_3
    refine gz_bipush (v := (-9 : Int32)) (pc := 102) dX9_crew_102 rfl ?_
    refine gz_goto (tgt := 111) (pc := 104) dX9_crew_104 rfl ?_
    exact gz_irt (pc := 111) dX9_crew_111 rfl rfl hf
def fX9_crew_15  : Nat → Nat → Int32 → Int32 → Int32 → gz_H → Option (Int32 × gz_H)
  | 0, _, _, _, _, _ => none
  | n + 1, a0, x1, x2, x3, h =>
    gz_ck (gz_sh h a0 9 29) <|
    if ((1 : Int32) <<< ((h.2.1 a0 3) &&& 31)) ≤ x3 then (
     if x2 = (-9 : Int32) then (
      fX9_crew_93 x2 a0 (h.2.1 a0 11) h
     ) else (
      fX9_crew_93 x2 a0 x2 h
     )
    ) else (
     if x2 = (-9 : Int32) then (
      fX9_crew_42 (fun z0 z1 z2 z3 zh => fX9_crew_15 n z0 z1 z2 z3 zh) a0 x1 x2 x3 h
     ) else (
      gz_b2 (fX9_bits x3 h) fun y_6 h_5 =>
      gz_b2 (fX9_bits x2 h_5) fun y_8 h_7 =>
      if y_8 ≤ y_6 then (
       fX9_crew_47 (fun z0 z1 z2 z3 zh => fX9_crew_15 n z0 z1 z2 z3 zh) a0 x1 x2 x3 (0 : Int32) h_7
      ) else (
       fX9_crew_42 (fun z0 z1 z2 z3 zh => fX9_crew_15 n z0 z1 z2 z3 zh) a0 x1 x2 x3 h_7
      )
     )
    )
set_option maxRecDepth 100000 in
set_option maxHeartbeats 1000000 in
theorem sX9_crew_15 {G : gz_G} {d l0 s0 : Nat} {Q : Int32 → gz_H → Prop} : ∀ (n : Nat) (a0 : Nat) (x1 : Int32) (x2 : Int32) (x3 : Int32) (h : gz_H), gz_g (fX9_crew_15  n a0 x1 x2 x3 h) Q → gz_Ok G mX9_crew (d + 5, l0, s0, 0, 0) 15 [.ref a0, .int x1, .int x2, .int x3, .retAddr 0] [] h (gz_qi Q) := by
  intro n
  induction n with
  | zero => intro a0 x1 x2 x3 h hf; exact False.elim hf
  | succ n ih =>
    intro a0 x1 x2 x3 h hf
    rw [fX9_crew_15] at hf
    refine gz_iload_n (pc := 15) dX9_crew_15 rfl rfl ?_
    refine gz_iconst (v := (1 : Int32)) (pc := 16) dX9_crew_16 rfl ?_
    refine gz_aload_n (pc := 17) dX9_crew_17 rfl rfl ?_
    refine gz_gk hf (fun c_1 hf => ?_)
    refine gz_getI (pc := 18) dX9_crew_18 fl_RX9_158 rfl (gz_shs c_1) ?_
    refine gz_ishl (pc := 21) dX9_crew_21 ?_
    refine gz_icmp_ge (tgt := 78) (pc := 22) dX9_crew_22 rfl (fun c_2 => ?_) (fun c_2 => ?_)
    · have hf := gz_gT hf c_2
      refine gz_aload_n (pc := 78) dX9_crew_78 rfl rfl ?_
      refine gz_iload_n (pc := 79) dX9_crew_79 rfl rfl ?_
      refine gz_bipush (v := (-9 : Int32)) (pc := 80) dX9_crew_80 rfl ?_
      refine gz_icmp_ne (tgt := 92) (pc := 82) dX9_crew_82 rfl (fun c_3 => ?_) (fun c_3 => ?_)
      · have hf := gz_gF hf c_3
        refine gz_iload_n (pc := 92) dX9_crew_92 rfl rfl ?_
        refine gz_fg (lv := [.retAddr 0, .retAddr 0, .int x2, .retAddr 0, .retAddr 0]) ⟨Or.inl rfl, ⟨Or.inl rfl, ⟨Or.inr rfl, ⟨Or.inl rfl, ⟨Or.inl rfl, trivial⟩⟩⟩⟩⟩ ?_
        exact sX9_crew_93 x2 a0 x2 h hf
      · have hf := gz_gT hf c_3
        refine gz_aload_n (pc := 85) dX9_crew_85 rfl rfl ?_
        refine gz_getI (pc := 86) dX9_crew_86 fl_RX9_69 rfl (gz_shs c_1) ?_
        refine gz_goto (tgt := 93) (pc := 89) dX9_crew_89 rfl ?_
        refine gz_fg (lv := [.retAddr 0, .retAddr 0, .int x2, .retAddr 0, .retAddr 0]) ⟨Or.inl rfl, ⟨Or.inl rfl, ⟨Or.inr rfl, ⟨Or.inl rfl, ⟨Or.inl rfl, trivial⟩⟩⟩⟩⟩ ?_
        exact sX9_crew_93 x2 a0 (h.2.1 a0 11) h hf
    · have hf := gz_gF hf c_2
      refine gz_iload_n (pc := 25) dX9_crew_25 rfl rfl ?_
      refine gz_bipush (v := (-9 : Int32)) (pc := 26) dX9_crew_26 rfl ?_
      refine gz_icmp_eq (tgt := 42) (pc := 28) dX9_crew_28 rfl (fun c_4 => ?_) (fun c_4 => ?_)
      · have hf := gz_gT hf c_4
        exact sX9_crew_42 ih a0 x1 x2 x3 h hf
      · have hf := gz_gF hf c_4
        refine gz_iload_n (pc := 31) dX9_crew_31 rfl rfl ?_
        refine gz_cSI (av := [.int x3]) (st := []) (pc := 32) dX9_crew_32 kl_RX9_193 rfl rfl (Nat.le_of_ble_eq_true rfl) (by show d + 4 + 0 + 1 ≤ d + 5; omega) (sX9_bits (d := d + 4) (gz_gc hf)) (fun y_6 h_5 hf => ?_)
        refine gz_iload_n (pc := 35) dX9_crew_35 rfl rfl ?_
        refine gz_cSI (av := [.int x2]) (st := [.int y_6]) (pc := 36) dX9_crew_36 kl_RX9_193 rfl rfl (Nat.le_of_ble_eq_true rfl) (by show d + 4 + 0 + 1 ≤ d + 5; omega) (sX9_bits (d := d + 4) (gz_gc hf)) (fun y_8 h_7 hf => ?_)
        refine gz_icmp_ge (tgt := 46) (pc := 39) dX9_crew_39 rfl (fun c_9 => ?_) (fun c_9 => ?_)
        · have hf := gz_gT hf c_9
          refine gz_iconst (v := (0 : Int32)) (pc := 46) dX9_crew_46 rfl ?_
          exact sX9_crew_47 ih a0 x1 x2 x3 (0 : Int32) h_7 hf
        · have hf := gz_gF hf c_9
          exact sX9_crew_42 ih a0 x1 x2 x3 h_7 hf
def fX9_crew_0  (a0 : Nat) (x1 : Int32) (h : gz_H) : Option (Int32 × gz_H) :=
    gz_ck (gz_sh h a0 9 29) <|
    gz_b2 (fX9_isSet a0 x1 h) fun y_2 h_1 =>
    if y_2 = 0 then (
     some ((-1 : Int32), h_1)
    ) else (
     fX9_crew_15 gz_fu a0 x1 (-9 : Int32) (0 : Int32) h_1
    )
set_option maxRecDepth 100000 in
set_option maxHeartbeats 1000000 in
theorem sX9_crew_0 {G : gz_G} {d l0 s0 : Nat} {Q : Int32 → gz_H → Prop} (a0 : Nat) (x1 : Int32) (h : gz_H) (hf : gz_g (fX9_crew_0  a0 x1 h) Q) : gz_Ok G mX9_crew (d + 5, l0, s0, 0, 0) 0 [.ref a0, .int x1, .retAddr 0, .retAddr 0, .retAddr 0] [] h (gz_qi Q) := by
  unfold fX9_crew_0 at hf
  refine gz_aload_n (pc := 0) dX9_crew_0 rfl rfl ?_
  refine gz_iload_n (pc := 1) dX9_crew_1 rfl rfl ?_
  refine gz_gk hf (fun c_3 hf => ?_)
  refine gz_cVI (av := [.int x1]) (st := []) (pc := 2) dX9_crew_2 kl_RX9_257 rfl (gz_shs c_3) rfl rfl (Nat.le_of_ble_eq_true rfl) (by show d + 3 + 1 + 1 ≤ d + 5; omega) (sX9_isSet (d := d + 3) (gz_gc hf)) (fun y_2 h_1 hf => ?_)
  refine gz_if_ne (tgt := 10) (pc := 5) dX9_crew_5 rfl (fun c_4 => ?_) (fun c_4 => ?_)
  · have hf := gz_gF hf c_4
    refine gz_bipush (v := (-9 : Int32)) (pc := 10) dX9_crew_10 rfl ?_
    refine gz_istore_n (lv := [.ref a0, .int x1, .int (-9 : Int32), .retAddr 0, .retAddr 0]) (pc := 12) dX9_crew_12 rfl (by decide) rfl ?_
    refine gz_iconst (v := (0 : Int32)) (pc := 13) dX9_crew_13 rfl ?_
    refine gz_istore_n (lv := [.ref a0, .int x1, .int (-9 : Int32), .int (0 : Int32), .retAddr 0]) (pc := 14) dX9_crew_14 rfl (by decide) rfl ?_
    exact sX9_crew_15 gz_fu a0 x1 (-9 : Int32) (0 : Int32) h_1 hf
  · have hf := gz_gT hf c_4
    refine gz_iconst (v := (-1 : Int32)) (pc := 8) dX9_crew_8 rfl ?_
    exact gz_irt (pc := 9) dX9_crew_9 rfl rfl hf
def fX9_crew (a0 : Nat) (x1 : Int32) (h : gz_H) : Option (Int32 × gz_H) := fX9_crew_0 a0 x1 h
theorem sX9_crew {G : gz_G} {d : Nat} {a0 : Nat} {x1 : Int32} {h : gz_H} {Q : Int32 → gz_H → Prop} (hf : gz_g (fX9_crew a0 x1 h) Q) : gz_Cl G mX9_crew (d + 5) 0 0 [.ref a0, .int x1] h (gz_qi Q) := gz_cl_of (lo := [.ref a0, .int x1, .retAddr 0, .retAddr 0, .retAddr 0]) (by decide) rfl rfl (Nat.le_of_ble_eq_true rfl) (sX9_crew_0 a0 x1 h hf)
