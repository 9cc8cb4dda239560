theorem dX9_tellsTried_0 : decode cX9_tellsTried 0 = .ok (.iload_n 1, 1) := by decide +kernel
theorem dX9_tellsTried_1 : decode cX9_tellsTried 1 = .ok (.invokestatic 167, 3) := by decide +kernel
theorem dX9_tellsTried_4 : decode cX9_tellsTried 4 = .ok (.ifCond .eq 11, 3) := by decide +kernel
theorem dX9_tellsTried_7 : decode cX9_tellsTried 7 = .ok (.aload_n 0, 1) := by decide +kernel
theorem dX9_tellsTried_8 : decode cX9_tellsTried 8 = .ok (.getfield 164, 3) := by decide +kernel
theorem dX9_tellsTried_11 : decode cX9_tellsTried 11 = .ok (.iload_n 2, 1) := by decide +kernel
theorem dX9_tellsTried_12 : decode cX9_tellsTried 12 = .ok (.if_icmp .eq 12, 3) := by decide +kernel
theorem dX9_tellsTried_15 : decode cX9_tellsTried 15 = .ok (.iload_n 1, 1) := by decide +kernel
theorem dX9_tellsTried_16 : decode cX9_tellsTried 16 = .ok (.iconst 5, 1) := by decide +kernel
theorem dX9_tellsTried_17 : decode cX9_tellsTried 17 = .ok (.if_icmp .ne 9, 3) := by decide +kernel
theorem dX9_tellsTried_20 : decode cX9_tellsTried 20 = .ok (.iload_n 3, 1) := by decide +kernel
theorem dX9_tellsTried_21 : decode cX9_tellsTried 21 = .ok (.ifCond .ne 5, 3) := by decide +kernel
theorem dX9_tellsTried_24 : decode cX9_tellsTried 24 = .ok (.iconst 0, 1) := by decide +kernel
theorem dX9_tellsTried_25 : decode cX9_tellsTried 25 = .ok (.ireturn, 1) := by decide +kernel
theorem dX9_tellsTried_26 : decode cX9_tellsTried 26 = .ok (.iconst 0, 1) := by decide +kernel
theorem dX9_tellsTried_27 : decode cX9_tellsTried 27 = .ok (.istore 4, 2) := by decide +kernel
theorem dX9_tellsTried_29 : decode cX9_tellsTried 29 = .ok (.iconst 0, 1) := by decide +kernel
theorem dX9_tellsTried_30 : decode cX9_tellsTried 30 = .ok (.istore 5, 2) := by decide +kernel
theorem dX9_tellsTried_32 : decode cX9_tellsTried 32 = .ok (.iload 5, 2) := by decide +kernel
theorem dX9_tellsTried_34 : decode cX9_tellsTried 34 = .ok (.aload_n 0, 1) := by decide +kernel
theorem dX9_tellsTried_35 : decode cX9_tellsTried 35 = .ok (.getfield 164, 3) := by decide +kernel
theorem dX9_tellsTried_38 : decode cX9_tellsTried 38 = .ok (.if_icmp .ge 115, 3) := by decide +kernel
theorem dX9_tellsTried_41 : decode cX9_tellsTried 41 = .ok (.aload_n 0, 1) := by decide +kernel
theorem dX9_tellsTried_42 : decode cX9_tellsTried 42 = .ok (.getfield 56, 3) := by decide +kernel
theorem dX9_tellsTried_45 : decode cX9_tellsTried 45 = .ok (.iload 5, 2) := by decide +kernel
theorem dX9_tellsTried_47 : decode cX9_tellsTried 47 = .ok (.iaload, 1) := by decide +kernel
theorem dX9_tellsTried_48 : decode cX9_tellsTried 48 = .ok (.istore 6, 2) := by decide +kernel
theorem dX9_tellsTried_50 : decode cX9_tellsTried 50 = .ok (.aload_n 0, 1) := by decide +kernel
theorem dX9_tellsTried_51 : decode cX9_tellsTried 51 = .ok (.getfield 13, 3) := by decide +kernel
theorem dX9_tellsTried_54 : decode cX9_tellsTried 54 = .ok (.iload 6, 2) := by decide +kernel
theorem dX9_tellsTried_56 : decode cX9_tellsTried 56 = .ok (.iaload, 1) := by decide +kernel
theorem dX9_tellsTried_57 : decode cX9_tellsTried 57 = .ok (.iload_n 3, 1) := by decide +kernel
theorem dX9_tellsTried_58 : decode cX9_tellsTried 58 = .ok (.if_icmp .eq 24, 3) := by decide +kernel
theorem dX9_tellsTried_61 : decode cX9_tellsTried 61 = .ok (.iload_n 1, 1) := by decide +kernel
theorem dX9_tellsTried_62 : decode cX9_tellsTried 62 = .ok (.iconst 2, 1) := by decide +kernel
theorem dX9_tellsTried_63 : decode cX9_tellsTried 63 = .ok (.if_icmp .ne 23, 3) := by decide +kernel
theorem dX9_tellsTried_66 : decode cX9_tellsTried 66 = .ok (.aload_n 0, 1) := by decide +kernel
theorem dX9_tellsTried_67 : decode cX9_tellsTried 67 = .ok (.getfield 13, 3) := by decide +kernel
theorem dX9_tellsTried_70 : decode cX9_tellsTried 70 = .ok (.iload 6, 2) := by decide +kernel
theorem dX9_tellsTried_72 : decode cX9_tellsTried 72 = .ok (.iaload, 1) := by decide +kernel
theorem dX9_tellsTried_73 : decode cX9_tellsTried 73 = .ok (.iload_n 3, 1) := by decide +kernel
theorem dX9_tellsTried_74 : decode cX9_tellsTried 74 = .ok (.iconst 1, 1) := by decide +kernel
theorem dX9_tellsTried_75 : decode cX9_tellsTried 75 = .ok (.iadd, 1) := by decide +kernel
theorem dX9_tellsTried_76 : decode cX9_tellsTried 76 = .ok (.bipush 6, 2) := by decide +kernel
theorem dX9_tellsTried_78 : decode cX9_tellsTried 78 = .ok (.irem, 1) := by decide +kernel
theorem dX9_tellsTried_79 : decode cX9_tellsTried 79 = .ok (.if_icmp .ne 7, 3) := by decide +kernel
theorem dX9_tellsTried_82 : decode cX9_tellsTried 82 = .ok (.iconst 1, 1) := by decide +kernel
theorem dX9_tellsTried_83 : decode cX9_tellsTried 83 = .ok (.goto 4, 3) := by decide +kernel
theorem dX9_tellsTried_86 : decode cX9_tellsTried 86 = .ok (.iconst 0, 1) := by decide +kernel
theorem dX9_tellsTried_87 : decode cX9_tellsTried 87 = .ok (.istore 7, 2) := by decide +kernel
theorem dX9_tellsTried_89 : decode cX9_tellsTried 89 = .ok (.iload 7, 2) := by decide +kernel
theorem dX9_tellsTried_91 : decode cX9_tellsTried 91 = .ok (.ifCond .eq 20, 3) := by decide +kernel
theorem dX9_tellsTried_94 : decode cX9_tellsTried 94 = .ok (.iload_n 1, 1) := by decide +kernel
theorem dX9_tellsTried_95 : decode cX9_tellsTried 95 = .ok (.iconst 4, 1) := by decide +kernel
theorem dX9_tellsTried_96 : decode cX9_tellsTried 96 = .ok (.if_icmp .ne 11, 3) := by decide +kernel
theorem dX9_tellsTried_99 : decode cX9_tellsTried 99 = .ok (.iload 6, 2) := by decide +kernel
theorem dX9_tellsTried_101 : decode cX9_tellsTried 101 = .ok (.iconst 2, 1) := by decide +kernel
theorem dX9_tellsTried_102 : decode cX9_tellsTried 102 = .ok (.irem, 1) := by decide +kernel
theorem dX9_tellsTried_103 : decode cX9_tellsTried 103 = .ok (.iconst 1, 1) := by decide +kernel
theorem dX9_tellsTried_104 : decode cX9_tellsTried 104 = .ok (.if_icmp .ne 7, 3) := by decide +kernel
theorem dX9_tellsTried_107 : decode cX9_tellsTried 107 = .ok (.iconst 1, 1) := by decide +kernel
theorem dX9_tellsTried_108 : decode cX9_tellsTried 108 = .ok (.goto 4, 3) := by decide +kernel
theorem dX9_tellsTried_111 : decode cX9_tellsTried 111 = .ok (.iconst 0, 1) := by decide +kernel
theorem dX9_tellsTried_112 : decode cX9_tellsTried 112 = .ok (.istore 7, 2) := by decide +kernel
theorem dX9_tellsTried_114 : decode cX9_tellsTried 114 = .ok (.iload 7, 2) := by decide +kernel
theorem dX9_tellsTried_116 : decode cX9_tellsTried 116 = .ok (.ifCond .ne 8, 3) := by decide +kernel
theorem dX9_tellsTried_119 : decode cX9_tellsTried 119 = .ok (.iload 4, 2) := by decide +kernel
theorem dX9_tellsTried_121 : decode cX9_tellsTried 121 = .ok (.goto 24, 3) := by decide +kernel
theorem dX9_tellsTried_124 : decode cX9_tellsTried 124 = .ok (.iload_n 1, 1) := by decide +kernel
theorem dX9_tellsTried_125 : decode cX9_tellsTried 125 = .ok (.invokestatic 170, 3) := by decide +kernel
theorem dX9_tellsTried_128 : decode cX9_tellsTried 128 = .ok (.ifCond .eq 10, 3) := by decide +kernel
theorem dX9_tellsTried_131 : decode cX9_tellsTried 131 = .ok (.iconst 1, 1) := by decide +kernel
theorem dX9_tellsTried_132 : decode cX9_tellsTried 132 = .ok (.iload 6, 2) := by decide +kernel
theorem dX9_tellsTried_134 : decode cX9_tellsTried 134 = .ok (.ishl, 1) := by decide +kernel
theorem dX9_tellsTried_135 : decode cX9_tellsTried 135 = .ok (.goto 10, 3) := by decide +kernel
theorem dX9_tellsTried_138 : decode cX9_tellsTried 138 = .ok (.iload 4, 2) := by decide +kernel
theorem dX9_tellsTried_140 : decode cX9_tellsTried 140 = .ok (.iconst 1, 1) := by decide +kernel
theorem dX9_tellsTried_141 : decode cX9_tellsTried 141 = .ok (.iload 6, 2) := by decide +kernel
theorem dX9_tellsTried_143 : decode cX9_tellsTried 143 = .ok (.ishl, 1) := by decide +kernel
theorem dX9_tellsTried_144 : decode cX9_tellsTried 144 = .ok (.ior, 1) := by decide +kernel
theorem dX9_tellsTried_145 : decode cX9_tellsTried 145 = .ok (.istore 4, 2) := by decide +kernel
theorem dX9_tellsTried_147 : decode cX9_tellsTried 147 = .ok (.iinc 5 1, 3) := by decide +kernel
theorem dX9_tellsTried_150 : decode cX9_tellsTried 150 = .ok (.goto (-118), 3) := by decide +kernel
theorem dX9_tellsTried_153 : decode cX9_tellsTried 153 = .ok (.iload 4, 2) := by decide +kernel
theorem dX9_tellsTried_155 : decode cX9_tellsTried 155 = .ok (.ireturn, 1) := by decide +kernel
def fX9_tellsTried_145 (k32 : Nat → Int32 → Int32 → Int32 → Int32 → gz_H → Option (Int32 × gz_H)) (a0 : Nat) (x1 : Int32) (x3 : Int32) (x5 : Int32) (w0 : Int32) (h : gz_H) : Option (Int32 × gz_H) :=
    k32 a0 x1 x3 w0 (x5 + 1) h
set_option maxRecDepth 100000 in
set_option maxHeartbeats 1000000 in
theorem sX9_tellsTried_145 {G : gz_G} {d l0 s0 : Nat} {Q : Int32 → gz_H → Prop} {k32 : Nat → Int32 → Int32 → Int32 → Int32 → gz_H → Option (Int32 × gz_H)} (hk32 : ∀ (a0 : Nat) (x1 : Int32) (x3 : Int32) (x4 : Int32) (x5 : Int32) (h : gz_H), gz_g (k32 a0 x1 x3 x4 x5 h) Q → gz_Ok G mX9_tellsTried (d + 1, l0, s0, 0, 0) 32 [.ref a0, .int x1, .retAddr 0, .int x3, .int x4, .int x5, .retAddr 0, .retAddr 0] [] h (gz_qi Q)) (a0 : Nat) (x1 : Int32) (x3 : Int32) (x5 : Int32) (w0 : Int32) (h : gz_H) (hf : gz_g (fX9_tellsTried_145 k32 a0 x1 x3 x5 w0 h) Q) : gz_Ok G mX9_tellsTried (d + 1, l0, s0, 0, 0) 145 [.ref a0, .int x1, .retAddr 0, .int x3, .retAddr 0, .int x5, .retAddr 0, .retAddr 0] [.int w0] h (gz_qi Q) := by
  unfold fX9_tellsTried_145 at hf
  refine gz_istore (lv := [.ref a0, .int x1, .retAddr 0, .int x3, .int w0, .int x5, .retAddr 0, .retAddr 0]) (pc := 145) dX9_tellsTried_145 (by decide) rfl ?_
  refine gz_iinc (v := x5 + 1) (lv := [.ref a0, .int x1, .retAddr 0, .int x3, .int w0, .int (x5 + 1), .retAddr 0, .retAddr 0]) (pc := 147) dX9_tellsTried_147 rfl rfl (by decide) rfl ?_
  refine gz_goto (tgt := 32) (pc := 150) dX9_tellsTried_150 rfl ?_
  exact hk32 a0 x1 x3 w0 (x5 + 1) h hf
def fX9_tellsTried_112 (k32 : Nat → Int32 → Int32 → Int32 → Int32 → gz_H → Option (Int32 × gz_H)) (a0 : Nat) (x1 : Int32) (x3 : Int32) (x4 : Int32) (x5 : Int32) (x6 : Int32) (w0 : Int32) (h : gz_H) : Option (Int32 × gz_H) :=
    if w0 = 0 then (
     fX9_tellsTried_145 k32 a0 x1 x3 x5 x4 h
    ) else (
     gz_b2 (fX9_isGander x1 h) fun y_3 h_2 =>
     if y_3 = 0 then (
      fX9_tellsTried_145 k32 a0 x1 x3 x5 (x4 ||| ((1 : Int32) <<< (x6 &&& 31))) h_2
     ) else (
      fX9_tellsTried_145 k32 a0 x1 x3 x5 ((1 : Int32) <<< (x6 &&& 31)) h_2
     )
    )
set_option maxRecDepth 100000 in
set_option maxHeartbeats 1000000 in
theorem sX9_tellsTried_112 {G : gz_G} {d l0 s0 : Nat} {Q : Int32 → gz_H → Prop} {k32 : Nat → Int32 → Int32 → Int32 → Int32 → gz_H → Option (Int32 × gz_H)} (hk32 : ∀ (a0 : Nat) (x1 : Int32) (x3 : Int32) (x4 : Int32) (x5 : Int32) (h : gz_H), gz_g (k32 a0 x1 x3 x4 x5 h) Q → gz_Ok G mX9_tellsTried (d + 1, l0, s0, 0, 0) 32 [.ref a0, .int x1, .retAddr 0, .int x3, .int x4, .int x5, .retAddr 0, .retAddr 0] [] h (gz_qi Q)) (a0 : Nat) (x1 : Int32) (x3 : Int32) (x4 : Int32) (x5 : Int32) (x6 : Int32) (w0 : Int32) (h : gz_H) (hf : gz_g (fX9_tellsTried_112 k32 a0 x1 x3 x4 x5 x6 w0 h) Q) : gz_Ok G mX9_tellsTried (d + 1, l0, s0, 0, 0) 112 [.ref a0, .int x1, .retAddr 0, .int x3, .int x4, .int x5, .int x6, .retAddr 0] [.int w0] h (gz_qi Q) := by
  unfold fX9_tellsTried_112 at hf
  refine gz_istore (lv := [.ref a0, .int x1, .retAddr 0, .int x3, .int x4, .int x5, .int x6, .int w0]) (pc := 112) dX9_tellsTried_112 (by decide) rfl ?_
  refine gz_iload (pc := 114) dX9_tellsTried_114 rfl ?_
  refine gz_if_ne (tgt := 124) (pc := 116) dX9_tellsTried_116 rfl (fun c_1 => ?_) (fun c_1 => ?_)
  · have hf := gz_gF hf c_1
    refine gz_iload_n (pc := 124) dX9_tellsTried_124 rfl rfl ?_
    refine gz_cSI (av := [.int x1]) (st := []) (pc := 125) dX9_tellsTried_125 kl_RX9_170 rfl rfl (Nat.le_of_ble_eq_true rfl) (by show d + 0 + 0 + 1 ≤ d + 1; omega) (sX9_isGander (d := d + 0) (gz_gc hf)) (fun y_3 h_2 hf => ?_)
    refine gz_if_eq (tgt := 138) (pc := 128) dX9_tellsTried_128 rfl (fun c_4 => ?_) (fun c_4 => ?_)
    · have hf := gz_gT hf c_4
      refine gz_iload (pc := 138) dX9_tellsTried_138 rfl ?_
      refine gz_iconst (v := (1 : Int32)) (pc := 140) dX9_tellsTried_140 rfl ?_
      refine gz_iload (pc := 141) dX9_tellsTried_141 rfl ?_
      refine gz_ishl (pc := 143) dX9_tellsTried_143 ?_
      refine gz_ior (pc := 144) dX9_tellsTried_144 ?_
      refine gz_fg (lv := [.ref a0, .int x1, .retAddr 0, .int x3, .retAddr 0, .int x5, .retAddr 0, .retAddr 0]) ⟨Or.inr rfl, ⟨Or.inr rfl, ⟨Or.inl rfl, ⟨Or.inr rfl, ⟨Or.inl rfl, ⟨Or.inr rfl, ⟨Or.inl rfl, ⟨Or.inl rfl, trivial⟩⟩⟩⟩⟩⟩⟩⟩ ?_
      exact sX9_tellsTried_145 hk32 a0 x1 x3 x5 (x4 ||| ((1 : Int32) <<< (x6 &&& 31))) h_2 hf
    · have hf := gz_gF hf c_4
      refine gz_iconst (v := (1 : Int32)) (pc := 131) dX9_tellsTried_131 rfl ?_
      refine gz_iload (pc := 132) dX9_tellsTried_132 rfl ?_
      refine gz_ishl (pc := 134) dX9_tellsTried_134 ?_
      refine gz_goto (tgt := 145) (pc := 135) dX9_tellsTried_135 rfl ?_
      refine gz_fg (lv := [.ref a0, .int x1, .retAddr 0, .int x3, .retAddr 0, .int x5, .retAddr 0, .retAddr 0]) ⟨Or.inr rfl, ⟨Or.inr rfl, ⟨Or.inl rfl, ⟨Or.inr rfl, ⟨Or.inl rfl, ⟨Or.inr rfl, ⟨Or.inl rfl, ⟨Or.inl rfl, trivial⟩⟩⟩⟩⟩⟩⟩⟩ ?_
      exact sX9_tellsTried_145 hk32 a0 x1 x3 x5 ((1 : Int32) <<< (x6 &&& 31)) h_2 hf
  · have hf := gz_gT hf c_1
    refine gz_iload (pc := 119) dX9_tellsTried_119 rfl ?_
    refine gz_goto (tgt := 145) (pc := 121) dX9_tellsTried_121 rfl ?_
    refine gz_fg (lv := [.ref a0, .int x1, .retAddr 0, .int x3, .retAddr 0, .int x5, .retAddr 0, .retAddr 0]) ⟨Or.inr rfl, ⟨Or.inr rfl, ⟨Or.inl rfl, ⟨Or.inr rfl, ⟨Or.inl rfl, ⟨Or.inr rfl, ⟨Or.inl rfl, ⟨Or.inl rfl, trivial⟩⟩⟩⟩⟩⟩⟩⟩ ?_
    exact sX9_tellsTried_145 hk32 a0 x1 x3 x5 x4 h hf
def fX9_tellsTried_107 (k32 : Nat → Int32 → Int32 → Int32 → Int32 → gz_H → Option (Int32 × gz_H)) (a0 : Nat) (x1 : Int32) (x3 : Int32) (x4 : Int32) (x5 : Int32) (x6 : Int32) (h : gz_H) : Option (Int32 × gz_H) :=
    fX9_tellsTried_112 k32 a0 x1 x3 x4 x5 x6 (1 : Int32) h
set_option maxRecDepth 100000 in
set_option maxHeartbeats 1000000 in
theorem sX9_tellsTried_107 {G : gz_G} {d l0 s0 : Nat} {Q : Int32 → gz_H → Prop} {k32 : Nat → Int32 → Int32 → Int32 → Int32 → gz_H → Option (Int32 × gz_H)} (hk32 : ∀ (a0 : Nat) (x1 : Int32) (x3 : Int32) (x4 : Int32) (x5 : Int32) (h : gz_H), gz_g (k32 a0 x1 x3 x4 x5 h) Q → gz_Ok G mX9_tellsTried (d + 1, l0, s0, 0, 0) 32 [.ref a0, .int x1, .retAddr 0, .int x3, .int x4, .int x5, .retAddr 0, .retAddr 0] [] h (gz_qi Q)) (a0 : Nat) (x1 : Int32) (x3 : Int32) (x4 : Int32) (x5 : Int32) (x6 : Int32) (h : gz_H) (hf : gz_g (fX9_tellsTried_107 k32 a0 x1 x3 x4 x5 x6 h) Q) : gz_Ok G mX9_tellsTried (d + 1, l0, s0, 0, 0) 107 [.ref a0, .int x1, .retAddr 0, .int x3, .int x4, .int x5, .int x6, .retAddr 0] [] h (gz_qi Q) := by
  unfold fX9_tellsTried_107 at hf
  refine gz_iconst (v := (1 : Int32)) (pc := 107) dX9_tellsTried_107 rfl ?_
  refine gz_goto (tgt := 112) (pc := 108) dX9_tellsTried_108 rfl ?_
  exact sX9_tellsTried_112 hk32 a0 x1 x3 x4 x5 x6 (1 : Int32) h hf
def fX9_tellsTried_111 (k32 : Nat → Int32 → Int32 → Int32 → Int32 → gz_H → Option (Int32 × gz_H)) (a0 : Nat) (x1 : Int32) (x3 : Int32) (x4 : Int32) (x5 : Int32) (x6 : Int32) (h : gz_H) : Option (Int32 × gz_H) :=
    fX9_tellsTried_112 k32 a0 x1 x3 x4 x5 x6 (0 : Int32) h
set_option maxRecDepth 100000 in
set_option maxHeartbeats 1000000 in
theorem sX9_tellsTried_111 {G : gz_G} {d l0 s0 : Nat} {Q : Int32 → gz_H → Prop} {k32 : Nat → Int32 → Int32 → Int32 → Int32 → gz_H → Option (Int32 × gz_H)} (hk32 : ∀ (a0 : Nat) (x1 : Int32) (x3 : Int32) (x4 : Int32) (x5 : Int32) (h : gz_H), gz_g (k32 a0 x1 x3 x4 x5 h) Q → gz_Ok G mX9_tellsTried (d + 1, l0, s0, 0, 0) 32 [.ref a0, .int x1, .retAddr 0, .int x3, .int x4, .int x5, .retAddr 0, .retAddr 0] [] h (gz_qi Q)) (a0 : Nat) (x1 : Int32) (x3 : Int32) (x4 : Int32) (x5 : Int32) (x6 : Int32) (h : gz_H) (hf : gz_g (fX9_tellsTried_111 k32 a0 x1 x3 x4 x5 x6 h) Q) : gz_Ok G mX9_tellsTried (d + 1, l0, s0, 0, 0) 111 [.ref a0, .int x1, .retAddr 0, .int x3, .int x4, .int x5, .int x6, .retAddr 0] [] h (gz_qi Q) := by
  unfold fX9_tellsTried_111 at hf
  refine gz_iconst (v := (0 : Int32)) (pc := 111) dX9_tellsTried_111 rfl ?_
  exact sX9_tellsTried_112 hk32 a0 x1 x3 x4 x5 x6 (0 : Int32) h hf
def fX9_tellsTried_87 (k32 : Nat → Int32 → Int32 → Int32 → Int32 → gz_H → Option (Int32 × gz_H)) (a0 : Nat) (x1 : Int32) (x3 : Int32) (x4 : Int32) (x5 : Int32) (x6 : Int32) (w0 : Int32) (h : gz_H) : Option (Int32 × gz_H) :=
    if w0 = 0 then (
     fX9_tellsTried_111 k32 a0 x1 x3 x4 x5 x6 h
    ) else (
     if x1 = (4 : Int32) then (
      if (x6 - x6 / (2 : Int32) * (2 : Int32)) = (1 : Int32) then (
       fX9_tellsTried_107 k32 a0 x1 x3 x4 x5 x6 h
      ) else (
       fX9_tellsTried_111 k32 a0 x1 x3 x4 x5 x6 h
      )
     ) else (
      fX9_tellsTried_107 k32 a0 x1 x3 x4 x5 x6 h
     )
    )
set_option maxRecDepth 100000 in
set_option maxHeartbeats 1000000 in
theorem sX9_tellsTried_87 {G : gz_G} {d l0 s0 : Nat} {Q : Int32 → gz_H → Prop} {k32 : Nat → Int32 → Int32 → Int32 → Int32 → gz_H → Option (Int32 × gz_H)} (hk32 : ∀ (a0 : Nat) (x1 : Int32) (x3 : Int32) (x4 : Int32) (x5 : Int32) (h : gz_H), gz_g (k32 a0 x1 x3 x4 x5 h) Q → gz_Ok G mX9_tellsTried (d + 1, l0, s0, 0, 0) 32 [.ref a0, .int x1, .retAddr 0, .int x3, .int x4, .int x5, .retAddr 0, .retAddr 0] [] h (gz_qi Q)) (a0 : Nat) (x1 : Int32) (x3 : Int32) (x4 : Int32) (x5 : Int32) (x6 : Int32) (w0 : Int32) (h : gz_H) (hf : gz_g (fX9_tellsTried_87 k32 a0 x1 x3 x4 x5 x6 w0 h) Q) : gz_Ok G mX9_tellsTried (d + 1, l0, s0, 0, 0) 87 [.ref a0, .int x1, .retAddr 0, .int x3, .int x4, .int x5, .int x6, .retAddr 0] [.int w0] h (gz_qi Q) := by
  unfold fX9_tellsTried_87 at hf
  refine gz_istore (lv := [.ref a0, .int x1, .retAddr 0, .int x3, .int x4, .int x5, .int x6, .int w0]) (pc := 87) dX9_tellsTried_87 (by decide) rfl ?_
  refine gz_iload (pc := 89) dX9_tellsTried_89 rfl ?_
  refine gz_if_eq (tgt := 111) (pc := 91) dX9_tellsTried_91 rfl (fun c_1 => ?_) (fun c_1 => ?_)
  · have hf := gz_gT hf c_1
    refine gz_fg (lv := [.ref a0, .int x1, .retAddr 0, .int x3, .int x4, .int x5, .int x6, .retAddr 0]) ⟨Or.inr rfl, ⟨Or.inr rfl, ⟨Or.inl rfl, ⟨Or.inr rfl, ⟨Or.inr rfl, ⟨Or.inr rfl, ⟨Or.inr rfl, ⟨Or.inl rfl, trivial⟩⟩⟩⟩⟩⟩⟩⟩ ?_
    exact sX9_tellsTried_111 hk32 a0 x1 x3 x4 x5 x6 h hf
  · have hf := gz_gF hf c_1
    refine gz_iload_n (pc := 94) dX9_tellsTried_94 rfl rfl ?_
    refine gz_iconst (v := (4 : Int32)) (pc := 95) dX9_tellsTried_95 rfl ?_
    refine gz_icmp_ne (tgt := 107) (pc := 96) dX9_tellsTried_96 rfl (fun c_2 => ?_) (fun c_2 => ?_)
    · have hf := gz_gF hf c_2
      refine gz_fg (lv := [.ref a0, .int x1, .retAddr 0, .int x3, .int x4, .int x5, .int x6, .retAddr 0]) ⟨Or.inr rfl, ⟨Or.inr rfl, ⟨Or.inl rfl, ⟨Or.inr rfl, ⟨Or.inr rfl, ⟨Or.inr rfl, ⟨Or.inr rfl, ⟨Or.inl rfl, trivial⟩⟩⟩⟩⟩⟩⟩⟩ ?_
      exact sX9_tellsTried_107 hk32 a0 x1 x3 x4 x5 x6 h hf
    · have hf := gz_gT hf c_2
      refine gz_iload (pc := 99) dX9_tellsTried_99 rfl ?_
      refine gz_iconst (v := (2 : Int32)) (pc := 101) dX9_tellsTried_101 rfl ?_
      refine gz_irem (pc := 102) dX9_tellsTried_102 (by decide) ?_
      refine gz_iconst (v := (1 : Int32)) (pc := 103) dX9_tellsTried_103 rfl ?_
      refine gz_icmp_ne (tgt := 111) (pc := 104) dX9_tellsTried_104 rfl (fun c_3 => ?_) (fun c_3 => ?_)
      · have hf := gz_gF hf c_3
        refine gz_fg (lv := [.ref a0, .int x1, .retAddr 0, .int x3, .int x4, .int x5, .int x6, .retAddr 0]) ⟨Or.inr rfl, ⟨Or.inr rfl, ⟨Or.inl rfl, ⟨Or.inr rfl, ⟨Or.inr rfl, ⟨Or.inr rfl, ⟨Or.inr rfl, ⟨Or.inl rfl, trivial⟩⟩⟩⟩⟩⟩⟩⟩ ?_
        exact sX9_tellsTried_111 hk32 a0 x1 x3 x4 x5 x6 h hf
      · have hf := gz_gT hf c_3
        refine gz_fg (lv := [.ref a0, .int x1, .retAddr 0, .int x3, .int x4, .int x5, .int x6, .retAddr 0]) ⟨Or.inr rfl, ⟨Or.inr rfl, ⟨Or.inl rfl, ⟨Or.inr rfl, ⟨Or.inr rfl, ⟨Or.inr rfl, ⟨Or.inr rfl, ⟨Or.inl rfl, trivial⟩⟩⟩⟩⟩⟩⟩⟩ ?_
        exact sX9_tellsTried_107 hk32 a0 x1 x3 x4 x5 x6 h hf
def fX9_tellsTried_82 (k32 : Nat → Int32 → Int32 → Int32 → Int32 → gz_H → Option (Int32 × gz_H)) (a0 : Nat) (x1 : Int32) (x3 : Int32) (x4 : Int32) (x5 : Int32) (x6 : Int32) (h : gz_H) : Option (Int32 × gz_H) :=
    fX9_tellsTried_87 k32 a0 x1 x3 x4 x5 x6 (1 : Int32) h
set_option maxRecDepth 100000 in
set_option maxHeartbeats 1000000 in
theorem sX9_tellsTried_82 {G : gz_G} {d l0 s0 : Nat} {Q : Int32 → gz_H → Prop} {k32 : Nat → Int32 → Int32 → Int32 → Int32 → gz_H → Option (Int32 × gz_H)} (hk32 : ∀ (a0 : Nat) (x1 : Int32) (x3 : Int32) (x4 : Int32) (x5 : Int32) (h : gz_H), gz_g (k32 a0 x1 x3 x4 x5 h) Q → gz_Ok G mX9_tellsTried (d + 1, l0, s0, 0, 0) 32 [.ref a0, .int x1, .retAddr 0, .int x3, .int x4, .int x5, .retAddr 0, .retAddr 0] [] h (gz_qi Q)) (a0 : Nat) (x1 : Int32) (x3 : Int32) (x4 : Int32) (x5 : Int32) (x6 : Int32) (h : gz_H) (hf : gz_g (fX9_tellsTried_82 k32 a0 x1 x3 x4 x5 x6 h) Q) : gz_Ok G mX9_tellsTried (d + 1, l0, s0, 0, 0) 82 [.ref a0, .int x1, .retAddr 0, .int x3, .int x4, .int x5, .int x6, .retAddr 0] [] h (gz_qi Q) := by
  unfold fX9_tellsTried_82 at hf
  refine gz_iconst (v := (1 : Int32)) (pc := 82) dX9_tellsTried_82 rfl ?_
  refine gz_goto (tgt := 87) (pc := 83) dX9_tellsTried_83 rfl ?_
  exact sX9_tellsTried_87 hk32 a0 x1 x3 x4 x5 x6 (1 : Int32) h hf
def fX9_tellsTried_86 (k32 : Nat → Int32 → Int32 → Int32 → Int32 → gz_H → Option (Int32 × gz_H)) (a0 : Nat) (x1 : Int32) (x3 : Int32) (x4 : Int32) (x5 : Int32) (x6 : Int32) (h : gz_H) : Option (Int32 × gz_H) :=
    fX9_tellsTried_87 k32 a0 x1 x3 x4 x5 x6 (0 : Int32) h
set_option maxRecDepth 100000 in
set_option maxHeartbeats 1000000 in
theorem sX9_tellsTried_86 {G : gz_G} {d l0 s0 : Nat} {Q : Int32 → gz_H → Prop} {k32 : Nat → Int32 → Int32 → Int32 → Int32 → gz_H → Option (Int32 × gz_H)} (hk32 : ∀ (a0 : Nat) (x1 : Int32) (x3 : Int32) (x4 : Int32) (x5 : Int32) (h : gz_H), gz_g (k32 a0 x1 x3 x4 x5 h) Q → gz_Ok G mX9_tellsTried (d + 1, l0, s0, 0, 0) 32 [.ref a0, .int x1, .retAddr 0, .int x3, .int x4, .int x5, .retAddr 0, .retAddr 0] [] h (gz_qi Q)) (a0 : Nat) (x1 : Int32) (x3 : Int32) (x4 : Int32) (x5 : Int32) (x6 : Int32) (h : gz_H) (hf : gz_g (fX9_tellsTried_86 k32 a0 x1 x3 x4 x5 x6 h) Q) : gz_Ok G mX9_tellsTried (d + 1, l0, s0, 0, 0) 86 [.ref a0, .int x1, .retAddr 0, .int x3, .int x4, .int x5, .int x6, .retAddr 0] [] h (gz_qi Q) := by
  unfold fX9_tellsTried_86 at hf
  refine gz_iconst (v := (0 : Int32)) (pc := 86) dX9_tellsTried_86 rfl ?_
  exact sX9_tellsTried_87 hk32 a0 x1 x3 x4 x5 x6 (0 : Int32) h hf
def fX9_tellsTried_32  : Nat → Nat → Int32 → Int32 → Int32 → Int32 → gz_H → Option (Int32 × gz_H)
  | 0, _, _, _, _, _, _ => none
  | n + 1, a0, x1, x3, x4, x5, h =>
    gz_ck (gz_sh h a0 9 29) <|
    if (h.2.1 a0 25) ≤ x5 then (
     some (x4, h)
    ) else (
     gz_br (h.2.2.2 a0 26) fun r_3 =>
     gz_ck (gz_inb h r_3 10 x5) <|
     gz_br (h.2.2.2 a0 2) fun r_5 =>
     gz_ck (gz_inb h r_5 10 (h.2.1 r_3 x5.toNatClampNeg)) <|
     if (h.2.1 r_5 (h.2.1 r_3 x5.toNatClampNeg).toNatClampNeg) = x3 then (
      fX9_tellsTried_82 (fun z0 z1 z2 z3 z4 zh => fX9_tellsTried_32 n z0 z1 z2 z3 z4 zh) a0 x1 x3 x4 x5 (h.2.1 r_3 x5.toNatClampNeg) h
     ) else (
      if x1 = (2 : Int32) then (
       if (h.2.1 r_5 (h.2.1 r_3 x5.toNatClampNeg).toNatClampNeg) = ((x3 + (1 : Int32)) - (x3 + (1 : Int32)) / (6 : Int32) * (6 : Int32)) then (
        fX9_tellsTried_82 (fun z0 z1 z2 z3 z4 zh => fX9_tellsTried_32 n z0 z1 z2 z3 z4 zh) a0 x1 x3 x4 x5 (h.2.1 r_3 x5.toNatClampNeg) h
       ) else (
        fX9_tellsTried_86 (fun z0 z1 z2 z3 z4 zh => fX9_tellsTried_32 n z0 z1 z2 z3 z4 zh) a0 x1 x3 x4 x5 (h.2.1 r_3 x5.toNatClampNeg) h
       )
      ) else (
       fX9_tellsTried_86 (fun z0 z1 z2 z3 z4 zh => fX9_tellsTried_32 n z0 z1 z2 z3 z4 zh) a0 x1 x3 x4 x5 (h.2.1 r_3 x5.toNatClampNeg) h
      )
     )
    )
set_option maxRecDepth 100000 in
set_option maxHeartbeats 1000000 in
theorem sX9_tellsTried_32 {G : gz_G} {d l0 s0 : Nat} {Q : Int32 → gz_H → Prop} : ∀ (n : Nat) (a0 : Nat) (x1 : Int32) (x3 : Int32) (x4 : Int32) (x5 : Int32) (h : gz_H), gz_g (fX9_tellsTried_32  n a0 x1 x3 x4 x5 h) Q → gz_Ok G mX9_tellsTried (d + 1, l0, s0, 0, 0) 32 [.ref a0, .int x1, .retAddr 0, .int x3, .int x4, .int x5, .retAddr 0, .retAddr 0] [] h (gz_qi Q) := by
  intro n
  induction n with
  | zero => intro a0 x1 x3 x4 x5 h hf; exact False.elim hf
  | succ n ih =>
    intro a0 x1 x3 x4 x5 h hf
    rw [fX9_tellsTried_32] at hf
    refine gz_iload (pc := 32) dX9_tellsTried_32 rfl ?_
    refine gz_aload_n (pc := 34) dX9_tellsTried_34 rfl rfl ?_
    refine gz_gk hf (fun c_1 hf => ?_)
    refine gz_getI (pc := 35) dX9_tellsTried_35 fl_RX9_164 rfl (gz_shs c_1) ?_
    refine gz_icmp_ge (tgt := 153) (pc := 38) dX9_tellsTried_38 rfl (fun c_2 => ?_) (fun c_2 => ?_)
    · have hf := gz_gT hf c_2
      refine gz_iload (pc := 153) dX9_tellsTried_153 rfl ?_
      exact gz_irt (pc := 155) dX9_tellsTried_155 rfl rfl hf
    · have hf := gz_gF hf c_2
      refine gz_aload_n (pc := 41) dX9_tellsTried_41 rfl rfl ?_
      refine gz_gb hf (fun r_3 er_3 hf => ?_)
      refine gz_getR (pc := 42) dX9_tellsTried_42 fl_RX9_56 rfl (gz_shs c_1) er_3 ?_
      refine gz_iload (pc := 45) dX9_tellsTried_45 rfl ?_
      refine gz_gk hf (fun c_4 hf => ?_)
      refine gz_iald (pc := 47) dX9_tellsTried_47 c_4 ?_
      refine gz_istore (lv := [.ref a0, .int x1, .retAddr 0, .int x3, .int x4, .int x5, .int (h.2.1 r_3 x5.toNatClampNeg), .retAddr 0]) (pc := 48) dX9_tellsTried_48 (by decide) rfl ?_
      refine gz_aload_n (pc := 50) dX9_tellsTried_50 rfl rfl ?_
      refine gz_gb hf (fun r_5 er_5 hf => ?_)
      refine gz_getR (pc := 51) dX9_tellsTried_51 fl_RX9_13 rfl (gz_shs c_1) er_5 ?_
      refine gz_iload (pc := 54) dX9_tellsTried_54 rfl ?_
      refine gz_gk hf (fun c_6 hf => ?_)
      refine gz_iald (pc := 56) dX9_tellsTried_56 c_6 ?_
      refine gz_iload_n (pc := 57) dX9_tellsTried_57 rfl rfl ?_
      refine gz_icmp_eq (tgt := 82) (pc := 58) dX9_tellsTried_58 rfl (fun c_7 => ?_) (fun c_7 => ?_)
      · have hf := gz_gT hf c_7
        exact sX9_tellsTried_82 ih a0 x1 x3 x4 x5 (h.2.1 r_3 x5.toNatClampNeg) h hf
      · have hf := gz_gF hf c_7
        refine gz_iload_n (pc := 61) dX9_tellsTried_61 rfl rfl ?_
        refine gz_iconst (v := (2 : Int32)) (pc := 62) dX9_tellsTried_62 rfl ?_
        refine gz_icmp_ne (tgt := 86) (pc := 63) dX9_tellsTried_63 rfl (fun c_8 => ?_) (fun c_8 => ?_)
        · have hf := gz_gF hf c_8
          exact sX9_tellsTried_86 ih a0 x1 x3 x4 x5 (h.2.1 r_3 x5.toNatClampNeg) h hf
        · have hf := gz_gT hf c_8
          refine gz_aload_n (pc := 66) dX9_tellsTried_66 rfl rfl ?_
          refine gz_getR (pc := 67) dX9_tellsTried_67 fl_RX9_13 rfl (gz_shs c_1) er_5 ?_
          refine gz_iload (pc := 70) dX9_tellsTried_70 rfl ?_
          refine gz_iald (pc := 72) dX9_tellsTried_72 c_6 ?_
          refine gz_iload_n (pc := 73) dX9_tellsTried_73 rfl rfl ?_
          refine gz_iconst (v := (1 : Int32)) (pc := 74) dX9_tellsTried_74 rfl ?_
          refine gz_iadd (pc := 75) dX9_tellsTried_75 ?_
          refine gz_bipush (v := (6 : Int32)) (pc := 76) dX9_tellsTried_76 rfl ?_
          refine gz_irem (pc := 78) dX9_tellsTried_78 (by decide) ?_
          refine gz_icmp_ne (tgt := 86) (pc := 79) dX9_tellsTried_79 rfl (fun c_9 => ?_) (fun c_9 => ?_)
          · have hf := gz_gF hf c_9
            exact sX9_tellsTried_86 ih a0 x1 x3 x4 x5 (h.2.1 r_3 x5.toNatClampNeg) h hf
          · have hf := gz_gT hf c_9
            exact sX9_tellsTried_82 ih a0 x1 x3 x4 x5 (h.2.1 r_3 x5.toNatClampNeg) h hf
def fX9_tellsTried_26  (a0 : Nat) (x1 : Int32) (x3 : Int32) (h : gz_H) : Option (Int32 × gz_H) :=
    fX9_tellsTried_32 gz_fu a0 x1 x3 (0 : Int32) (0 : Int32) h
set_option maxRecDepth 100000 in
set_option maxHeartbeats 1000000 in
theorem sX9_tellsTried_26 {G : gz_G} {d l0 s0 : Nat} {Q : Int32 → gz_H → Prop} (a0 : Nat) (x1 : Int32) (x3 : Int32) (h : gz_H) (hf : gz_g (fX9_tellsTried_26  a0 x1 x3 h) Q) : gz_Ok G mX9_tellsTried (d + 1, l0, s0, 0, 0) 26 [.ref a0, .int x1, .retAddr 0, .int x3, .retAddr 0, .retAddr 0, .retAddr 0, .retAddr 0] [] h (gz_qi Q) := by
  unfold fX9_tellsTried_26 at hf
  refine gz_iconst (v := (0 : Int32)) (pc := 26) dX9_tellsTried_26 rfl ?_
  refine gz_istore (lv := [.ref a0, .int x1, .retAddr 0, .int x3, .int (0 : Int32), .retAddr 0, .retAddr 0, .retAddr 0]) (pc := 27) dX9_tellsTried_27 (by decide) rfl ?_
  refine gz_iconst (v := (0 : Int32)) (pc := 29) dX9_tellsTried_29 rfl ?_
  refine gz_istore (lv := [.ref a0, .int x1, .retAddr 0, .int x3, .int (0 : Int32), .int (0 : Int32), .retAddr 0, .retAddr 0]) (pc := 30) dX9_tellsTried_30 (by decide) rfl ?_
  exact sX9_tellsTried_32 gz_fu a0 x1 x3 (0 : Int32) (0 : Int32) h hf
def fX9_tellsTried_15  (a0 : Nat) (x1 : Int32) (x3 : Int32) (h : gz_H) : Option (Int32 × gz_H) :=
    if x1 = (5 : Int32) then (
     if x3 = 0 then (
      some ((0 : Int32), h)
     ) else (
      fX9_tellsTried_26 a0 x1 x3 h
     )
    ) else (
     fX9_tellsTried_26 a0 x1 x3 h
    )
set_option maxRecDepth 100000 in
set_option maxHeartbeats 1000000 in
theorem sX9_tellsTried_15 {G : gz_G} {d l0 s0 : Nat} {Q : Int32 → gz_H → Prop} (a0 : Nat) (x1 : Int32) (x3 : Int32) (h : gz_H) (hf : gz_g (fX9_tellsTried_15  a0 x1 x3 h) Q) : gz_Ok G mX9_tellsTried (d + 1, l0, s0, 0, 0) 15 [.ref a0, .int x1, .retAddr 0, .int x3, .retAddr 0, .retAddr 0, .retAddr 0, .retAddr 0] [] h (gz_qi Q) := by
  unfold fX9_tellsTried_15 at hf
  refine gz_iload_n (pc := 15) dX9_tellsTried_15 rfl rfl ?_
  refine gz_iconst (v := (5 : Int32)) (pc := 16) dX9_tellsTried_16 rfl ?_
  refine gz_icmp_ne (tgt := 26) (pc := 17) dX9_tellsTried_17 rfl (fun c_1 => ?_) (fun c_1 => ?_)
  · have hf := gz_gF hf c_1
    exact sX9_tellsTried_26 a0 x1 x3 h hf
  · have hf := gz_gT hf c_1
    refine gz_iload_n (pc := 20) dX9_tellsTried_20 rfl rfl ?_
    refine gz_if_ne (tgt := 26) (pc := 21) dX9_tellsTried_21 rfl (fun c_2 => ?_) (fun c_2 => ?_)
    · have hf := gz_gF hf c_2
      exact sX9_tellsTried_26 a0 x1 x3 h hf
    · have hf := gz_gT hf c_2
      refine gz_iconst (v := (0 : Int32)) (pc := 24) dX9_tellsTried_24 rfl ?_
      exact gz_irt (pc := 25) dX9_tellsTried_25 rfl rfl hf
def fX9_tellsTried_0  (a0 : Nat) (x1 : Int32) (x2 : Int32) (x3 : Int32) (h : gz_H) : Option (Int32 × gz_H) :=
    gz_b2 (fX9_isHen x1 h) fun y_2 h_1 =>
    if y_2 = 0 then (
     fX9_tellsTried_15 a0 x1 x3 h_1
    ) else (
     gz_ck (gz_sh h_1 a0 9 29) <|
     if (h_1.2.1 a0 25) = x2 then (
      some ((0 : Int32), h_1)
     ) else (
      fX9_tellsTried_15 a0 x1 x3 h_1
     )
    )
set_option maxRecDepth 100000 in
set_option maxHeartbeats 1000000 in
theorem sX9_tellsTried_0 {G : gz_G} {d l0 s0 : Nat} {Q : Int32 → gz_H → Prop} (a0 : Nat) (x1 : Int32) (x2 : Int32) (x3 : Int32) (h : gz_H) (hf : gz_g (fX9_tellsTried_0  a0 x1 x2 x3 h) Q) : gz_Ok G mX9_tellsTried (d + 1, l0, s0, 0, 0) 0 [.ref a0, .int x1, .int x2, .int x3, .retAddr 0, .retAddr 0, .retAddr 0, .retAddr 0] [] h (gz_qi Q) := by
  unfold fX9_tellsTried_0 at hf
  refine gz_iload_n (pc := 0) dX9_tellsTried_0 rfl rfl ?_
  refine gz_cSI (av := [.int x1]) (st := []) (pc := 1) dX9_tellsTried_1 kl_RX9_167 rfl rfl (Nat.le_of_ble_eq_true rfl) (by show d + 0 + 0 + 1 ≤ d + 1; omega) (sX9_isHen (d := d + 0) (gz_gc hf)) (fun y_2 h_1 hf => ?_)
  refine gz_if_eq (tgt := 15) (pc := 4) dX9_tellsTried_4 rfl (fun c_3 => ?_) (fun c_3 => ?_)
  · have hf := gz_gT hf c_3
    refine gz_fg (lv := [.ref a0, .int x1, .retAddr 0, .int x3, .retAddr 0, .retAddr 0, .retAddr 0, .retAddr 0]) ⟨Or.inr rfl, ⟨Or.inr rfl, ⟨Or.inl rfl, ⟨Or.inr rfl, ⟨Or.inl rfl, ⟨Or.inl rfl, ⟨Or.inl rfl, ⟨Or.inl rfl, trivial⟩⟩⟩⟩⟩⟩⟩⟩ ?_
    exact sX9_tellsTried_15 a0 x1 x3 h_1 hf
  · have hf := gz_gF hf c_3
    refine gz_aload_n (pc := 7) dX9_tellsTried_7 rfl rfl ?_
    refine gz_gk hf (fun c_4 hf => ?_)
    refine gz_getI (pc := 8) dX9_tellsTried_8 fl_RX9_164 rfl (gz_shs c_4) ?_
    refine gz_iload_n (pc := 11) dX9_tellsTried_11 rfl rfl ?_
    refine gz_icmp_eq (tgt := 24) (pc := 12) dX9_tellsTried_12 rfl (fun c_5 => ?_) (fun c_5 => ?_)
    · have hf := gz_gT hf c_5
      refine gz_iconst (v := (0 : Int32)) (pc := 24) dX9_tellsTried_24 rfl ?_
      exact gz_irt (pc := 25) dX9_tellsTried_25 rfl rfl hf
    · have hf := gz_gF hf c_5
      refine gz_fg (lv := [.ref a0, .int x1, .retAddr 0, .int x3, .retAddr 0, .retAddr 0, .retAddr 0, .retAddr 0]) ⟨Or.inr rfl, ⟨Or.inr rfl, ⟨Or.inl rfl, ⟨Or.inr rfl, ⟨Or.inl rfl, ⟨Or.inl rfl, ⟨Or.inl rfl, ⟨Or.inl rfl, trivial⟩⟩⟩⟩⟩⟩⟩⟩ ?_
      exact sX9_tellsTried_15 a0 x1 x3 h_1 hf
def fX9_tellsTried (a0 : Nat) (x1 : Int32) (x2 : Int32) (x3 : Int32) (h : gz_H) : Option (Int32 × gz_H) := fX9_tellsTried_0 a0 x1 x2 x3 h
theorem sX9_tellsTried {G : gz_G} {d : Nat} {a0 : Nat} {x1 : Int32} {x2 : Int32} {x3 : Int32} {h : gz_H} {Q : Int32 → gz_H → Prop} (hf : gz_g (fX9_tellsTried a0 x1 x2 x3 h) Q) : gz_Cl G mX9_tellsTried (d + 1) 0 0 [.ref a0, .int x1, .int x2, .int x3] h (gz_qi Q) := gz_cl_of (lo := [.ref a0, .int x1, .int x2, .int x3, .retAddr 0, .retAddr 0, .retAddr 0, .retAddr 0]) (by decide) rfl rfl (Nat.le_of_ble_eq_true rfl) (sX9_tellsTried_0 a0 x1 x2 x3 h hf)
theorem dX9_tellsAt_0 : decode cX9_tellsAt 0 = .ok (.aload_n 0, 1) := by decide +kernel
theorem dX9_tellsAt_1 : decode cX9_tellsAt 1 = .ok (.iload_n 1, 1) := by decide +kernel
theorem dX9_tellsAt_2 : decode cX9_tellsAt 2 = .ok (.invokevirtual 173, 3) := by decide +kernel
theorem dX9_tellsAt_5 : decode cX9_tellsAt 5 = .ok (.aload_n 0, 1) := by decide +kernel
theorem dX9_tellsAt_6 : decode cX9_tellsAt 6 = .ok (.iload_n 1, 1) := by decide +kernel
theorem dX9_tellsAt_7 : decode cX9_tellsAt 7 = .ok (.invokevirtual 177, 3) := by decide +kernel
theorem dX9_tellsAt_10 : decode cX9_tellsAt 10 = .ok (.ifCond .eq 7, 3) := by decide +kernel
theorem dX9_tellsAt_13 : decode cX9_tellsAt 13 = .ok (.iconst 0, 1) := by decide +kernel
theorem dX9_tellsAt_14 : decode cX9_tellsAt 14 = .ok (.goto 20, 3) := by decide +kernel
theorem dX9_tellsAt_17 : decode cX9_tellsAt 17 = .ok (.aload_n 0, 1) := by decide +kernel
theorem dX9_tellsAt_18 : decode cX9_tellsAt 18 = .ok (.aload_n 0, 1) := by decide +kernel
theorem dX9_tellsAt_19 : decode cX9_tellsAt 19 = .ok (.getfield 16, 3) := by decide +kernel
theorem dX9_tellsAt_22 : decode cX9_tellsAt 22 = .ok (.iload_n 1, 1) := by decide +kernel
theorem dX9_tellsAt_23 : decode cX9_tellsAt 23 = .ok (.iaload, 1) := by decide +kernel
theorem dX9_tellsAt_24 : decode cX9_tellsAt 24 = .ok (.aload_n 0, 1) := by decide +kernel
theorem dX9_tellsAt_25 : decode cX9_tellsAt 25 = .ok (.getfield 19, 3) := by decide +kernel
theorem dX9_tellsAt_28 : decode cX9_tellsAt 28 = .ok (.iload_n 1, 1) := by decide +kernel
theorem dX9_tellsAt_29 : decode cX9_tellsAt 29 = .ok (.iaload, 1) := by decide +kernel
theorem dX9_tellsAt_30 : decode cX9_tellsAt 30 = .ok (.iload_n 2, 1) := by decide +kernel
theorem dX9_tellsAt_31 : decode cX9_tellsAt 31 = .ok (.invokevirtual 180, 3) := by decide +kernel
theorem dX9_tellsAt_34 : decode cX9_tellsAt 34 = .ok (.ireturn, 1) := by decide +kernel
def fX9_tellsAt_0  (a0 : Nat) (x1 : Int32) (x2 : Int32) (h : gz_H) : Option (Int32 × gz_H) :=
    gz_ck (gz_sh h a0 9 29) <|
    gz_b2 (fX9_layHeld a0 x1 h) fun _ h_1 =>
    gz_ck (gz_sh h_1 a0 9 29) <|
    gz_b2 (fX9_isGone a0 x1 h_1) fun y_5 h_4 =>
    if y_5 = 0 then (
     gz_ck (gz_sh h_4 a0 9 29) <|
     gz_br (h_4.2.2.2 a0 4) fun r_9 =>
     gz_ck (gz_inb h_4 r_9 10 x1) <|
     gz_br (h_4.2.2.2 a0 5) fun r_11 =>
     gz_ck (gz_inb h_4 r_11 10 x1) <|
     gz_b2 (fX9_tellsTried a0 (h_4.2.1 r_9 x1.toNatClampNeg) (h_4.2.1 r_11 x1.toNatClampNeg) x2 h_4) fun y_14 h_13 =>
     some (y_14, h_13)
    ) else (
     some ((0 : Int32), h_4)
    )
set_option maxRecDepth 100000 in
set_option maxHeartbeats 1000000 in
theorem sX9_tellsAt_0 {G : gz_G} {d l0 s0 : Nat} {Q : Int32 → gz_H → Prop} (a0 : Nat) (x1 : Int32) (x2 : Int32) (h : gz_H) (hf : gz_g (fX9_tellsAt_0  a0 x1 x2 h) Q) : gz_Ok G mX9_tellsAt (d + 2, l0, s0, 0, 0) 0 [.ref a0, .int x1, .int x2] [] h (gz_qi Q) := by
  unfold fX9_tellsAt_0 at hf
  refine gz_aload_n (pc := 0) dX9_tellsAt_0 rfl rfl ?_
  refine gz_iload_n (pc := 1) dX9_tellsAt_1 rfl rfl ?_
  refine gz_gk hf (fun c_3 hf => ?_)
  refine gz_cVV (av := [.int x1]) (st := []) (pc := 2) dX9_tellsAt_2 kl_RX9_173 rfl (gz_shs c_3) rfl rfl (Nat.le_of_ble_eq_true rfl) (by show d + 0 + 1 + 1 ≤ d + 2; omega) (sX9_layHeld (d := d + 0) (gz_gc hf)) (fun _ h_1 hf => ?_)
  refine gz_aload_n (pc := 5) dX9_tellsAt_5 rfl rfl ?_
  refine gz_iload_n (pc := 6) dX9_tellsAt_6 rfl rfl ?_
  refine gz_gk hf (fun c_6 hf => ?_)
  refine gz_cVI (av := [.int x1]) (st := []) (pc := 7) dX9_tellsAt_7 kl_RX9_177 rfl (gz_shs c_6) rfl rfl (Nat.le_of_ble_eq_true rfl) (by show d + 0 + 1 + 1 ≤ d + 2; omega) (sX9_isGone (d := d + 0) (gz_gc hf)) (fun y_5 h_4 hf => ?_)
  refine gz_if_eq (tgt := 17) (pc := 10) dX9_tellsAt_10 rfl (fun c_7 => ?_) (fun c_7 => ?_)
  · have hf := gz_gT hf c_7
    refine gz_aload_n (pc := 17) dX9_tellsAt_17 rfl rfl ?_
    refine gz_aload_n (pc := 18) dX9_tellsAt_18 rfl rfl ?_
    refine gz_gk hf (fun c_8 hf => ?_)
    refine gz_gb hf (fun r_9 er_9 hf => ?_)
    refine gz_getR (pc := 19) dX9_tellsAt_19 fl_RX9_16 rfl (gz_shs c_8) er_9 ?_
    refine gz_iload_n (pc := 22) dX9_tellsAt_22 rfl rfl ?_
    refine gz_gk hf (fun c_10 hf => ?_)
    refine gz_iald (pc := 23) dX9_tellsAt_23 c_10 ?_
    refine gz_aload_n (pc := 24) dX9_tellsAt_24 rfl rfl ?_
    refine gz_gb hf (fun r_11 er_11 hf => ?_)
    refine gz_getR (pc := 25) dX9_tellsAt_25 fl_RX9_19 rfl (gz_shs c_8) er_11 ?_
    refine gz_iload_n (pc := 28) dX9_tellsAt_28 rfl rfl ?_
    refine gz_gk hf (fun c_12 hf => ?_)
    refine gz_iald (pc := 29) dX9_tellsAt_29 c_12 ?_
    refine gz_iload_n (pc := 30) dX9_tellsAt_30 rfl rfl ?_
    refine gz_cVI (av := [.int (h_4.2.1 r_9 x1.toNatClampNeg), .int (h_4.2.1 r_11 x1.toNatClampNeg), .int x2]) (st := []) (pc := 31) dX9_tellsAt_31 kl_RX9_180 rfl (gz_shs c_8) rfl rfl (Nat.le_of_ble_eq_true rfl) (by show d + 0 + 1 + 1 ≤ d + 2; omega) (sX9_tellsTried (d := d + 0) (gz_gc hf)) (fun y_14 h_13 hf => ?_)
    exact gz_irt (pc := 34) dX9_tellsAt_34 rfl rfl hf
  · have hf := gz_gF hf c_7
    refine gz_iconst (v := (0 : Int32)) (pc := 13) dX9_tellsAt_13 rfl ?_
    refine gz_goto (tgt := 34) (pc := 14) dX9_tellsAt_14 rfl ?_
    exact gz_irt (pc := 34) dX9_tellsAt_34 rfl rfl hf
def fX9_tellsAt (a0 : Nat) (x1 : Int32) (x2 : Int32) (h : gz_H) : Option (Int32 × gz_H) := fX9_tellsAt_0 a0 x1 x2 h
theorem sX9_tellsAt {G : gz_G} {d : Nat} {a0 : Nat} {x1 : Int32} {x2 : Int32} {h : gz_H} {Q : Int32 → gz_H → Prop} (hf : gz_g (fX9_tellsAt a0 x1 x2 h) Q) : gz_Cl G mX9_tellsAt (d + 2) 0 0 [.ref a0, .int x1, .int x2] h (gz_qi Q) := gz_cl_of (lo := [.ref a0, .int x1, .int x2]) (by decide) rfl rfl (Nat.le_of_ble_eq_true rfl) (sX9_tellsAt_0 a0 x1 x2 h hf)
theorem dX9_toldBy_0 : decode cX9_toldBy 0 = .ok (.iconst 0, 1) := by decide +kernel
theorem dX9_toldBy_1 : decode cX9_toldBy 1 = .ok (.istore_n 2, 1) := by decide +kernel
theorem dX9_toldBy_2 : decode cX9_toldBy 2 = .ok (.iconst 0, 1) := by decide +kernel
theorem dX9_toldBy_3 : decode cX9_toldBy 3 = .ok (.istore_n 3, 1) := by decide +kernel
theorem dX9_toldBy_4 : decode cX9_toldBy 4 = .ok (.iload_n 3, 1) := by decide +kernel
theorem dX9_toldBy_5 : decode cX9_toldBy 5 = .ok (.bipush 6, 2) := by decide +kernel
theorem dX9_toldBy_7 : decode cX9_toldBy 7 = .ok (.if_icmp .ge 18, 3) := by decide +kernel
theorem dX9_toldBy_10 : decode cX9_toldBy 10 = .ok (.iload_n 2, 1) := by decide +kernel
theorem dX9_toldBy_11 : decode cX9_toldBy 11 = .ok (.aload_n 0, 1) := by decide +kernel
theorem dX9_toldBy_12 : decode cX9_toldBy 12 = .ok (.iload_n 1, 1) := by decide +kernel
theorem dX9_toldBy_13 : decode cX9_toldBy 13 = .ok (.iload_n 3, 1) := by decide +kernel
theorem dX9_toldBy_14 : decode cX9_toldBy 14 = .ok (.invokevirtual 184, 3) := by decide +kernel
theorem dX9_toldBy_17 : decode cX9_toldBy 17 = .ok (.ior, 1) := by decide +kernel
theorem dX9_toldBy_18 : decode cX9_toldBy 18 = .ok (.istore_n 2, 1) := by decide +kernel
theorem dX9_toldBy_19 : decode cX9_toldBy 19 = .ok (.iinc 3 1, 3) := by decide +kernel
theorem dX9_toldBy_22 : decode cX9_toldBy 22 = .ok (.goto (-18), 3) := by decide +kernel
theorem dX9_toldBy_25 : decode cX9_toldBy 25 = .ok (.iload_n 2, 1) := by decide +kernel
theorem dX9_toldBy_26 : decode cX9_toldBy 26 = .ok (.ireturn, 1) := by decide +kernel
def fX9_toldBy_4  : Nat → Nat → Int32 → Int32 → Int32 → gz_H → Option (Int32 × gz_H)
  | 0, _, _, _, _, _ => none
  | n + 1, a0, x1, x2, x3, h =>
    if (6 : Int32) ≤ x3 then (
     some (x2, h)
    ) else (
     gz_ck (gz_sh h a0 9 29) <|
     gz_b2 (fX9_tellsAt a0 x1 x3 h) fun y_3 h_2 =>
     fX9_toldBy_4 n a0 x1 (x2 ||| y_3) (x3 + 1) h_2
    )
set_option maxRecDepth 100000 in
set_option maxHeartbeats 1000000 in
theorem sX9_toldBy_4 {G : gz_G} {d l0 s0 : Nat} {Q : Int32 → gz_H → Prop} : ∀ (n : Nat) (a0 : Nat) (x1 : Int32) (x2 : Int32) (x3 : Int32) (h : gz_H), gz_g (fX9_toldBy_4  n a0 x1 x2 x3 h) Q → gz_Ok G mX9_toldBy (d + 3, l0, s0, 0, 0) 4 [.ref a0, .int x1, .int x2, .int x3] [] h (gz_qi Q) := by
  intro n
  induction n with
  | zero => intro a0 x1 x2 x3 h hf; exact False.elim hf
  | succ n ih =>
    intro a0 x1 x2 x3 h hf
    rw [fX9_toldBy_4] at hf
    refine gz_iload_n (pc := 4) dX9_toldBy_4 rfl rfl ?_
    refine gz_bipush (v := (6 : Int32)) (pc := 5) dX9_toldBy_5 rfl ?_
    refine gz_icmp_ge (tgt := 25) (pc := 7) dX9_toldBy_7 rfl (fun c_1 => ?_) (fun c_1 => ?_)
    · have hf := gz_gT hf c_1
      refine gz_iload_n (pc := 25) dX9_toldBy_25 rfl rfl ?_
      exact gz_irt (pc := 26) dX9_toldBy_26 rfl rfl hf
    · have hf := gz_gF hf c_1
      refine gz_iload_n (pc := 10) dX9_toldBy_10 rfl rfl ?_
      refine gz_aload_n (pc := 11) dX9_toldBy_11 rfl rfl ?_
      refine gz_iload_n (pc := 12) dX9_toldBy_12 rfl rfl ?_
      refine gz_iload_n (pc := 13) dX9_toldBy_13 rfl rfl ?_
      refine gz_gk hf (fun c_4 hf => ?_)
      refine gz_cVI (av := [.int x1, .int x3]) (st := [.int x2]) (pc := 14) dX9_toldBy_14 kl_RX9_184 rfl (gz_shs c_4) rfl rfl (Nat.le_of_ble_eq_true rfl) (by show d + 0 + 2 + 1 ≤ d + 3; omega) (sX9_tellsAt (d := d + 0) (gz_gc hf)) (fun y_3 h_2 hf => ?_)
      refine gz_ior (pc := 17) dX9_toldBy_17 ?_
      refine gz_istore_n (lv := [.ref a0, .int x1, .int (x2 ||| y_3), .int x3]) (pc := 18) dX9_toldBy_18 rfl (by decide) rfl ?_
      refine gz_iinc (v := x3 + 1) (lv := [.ref a0, .int x1, .int (x2 ||| y_3), .int (x3 + 1)]) (pc := 19) dX9_toldBy_19 rfl rfl (by decide) rfl ?_
      refine gz_goto (tgt := 4) (pc := 22) dX9_toldBy_22 rfl ?_
      exact ih a0 x1 (x2 ||| y_3) (x3 + 1) h_2 hf
def fX9_toldBy_0  (a0 : Nat) (x1 : Int32) (h : gz_H) : Option (Int32 × gz_H) :=
    fX9_toldBy_4 gz_fu a0 x1 (0 : Int32) (0 : Int32) h
set_option maxRecDepth 100000 in
set_option maxHeartbeats 1000000 in
theorem sX9_toldBy_0 {G : gz_G} {d l0 s0 : Nat} {Q : Int32 → gz_H → Prop} (a0 : Nat) (x1 : Int32) (h : gz_H) (hf : gz_g (fX9_toldBy_0  a0 x1 h) Q) : gz_Ok G mX9_toldBy (d + 3, l0, s0, 0, 0) 0 [.ref a0, .int x1, .retAddr 0, .retAddr 0] [] h (gz_qi Q) := by
  unfold fX9_toldBy_0 at hf
  refine gz_iconst (v := (0 : Int32)) (pc := 0) dX9_toldBy_0 rfl ?_
  refine gz_istore_n (lv := [.ref a0, .int x1, .int (0 : Int32), .retAddr 0]) (pc := 1) dX9_toldBy_1 rfl (by decide) rfl ?_
  refine gz_iconst (v := (0 : Int32)) (pc := 2) dX9_toldBy_2 rfl ?_
  refine gz_istore_n (lv := [.ref a0, .int x1, .int (0 : Int32), .int (0 : Int32)]) (pc := 3) dX9_toldBy_3 rfl (by decide) rfl ?_
  exact sX9_toldBy_4 gz_fu a0 x1 (0 : Int32) (0 : Int32) h hf
def fX9_toldBy (a0 : Nat) (x1 : Int32) (h : gz_H) : Option (Int32 × gz_H) := fX9_toldBy_0 a0 x1 h
theorem sX9_toldBy {G : gz_G} {d : Nat} {a0 : Nat} {x1 : Int32} {h : gz_H} {Q : Int32 → gz_H → Prop} (hf : gz_g (fX9_toldBy a0 x1 h) Q) : gz_Cl G mX9_toldBy (d + 3) 0 0 [.ref a0, .int x1] h (gz_qi Q) := gz_cl_of (lo := [.ref a0, .int x1, .retAddr 0, .retAddr 0]) (by decide) rfl rfl (Nat.le_of_ble_eq_true rfl) (sX9_toldBy_0 a0 x1 h hf)
theorem dX9_heldByAll_0 : decode cX9_heldByAll 0 = .ok (.iconst 0, 1) := by decide +kernel
theorem dX9_heldByAll_1 : decode cX9_heldByAll 1 = .ok (.istore_n 1, 1) := by decide +kernel
theorem dX9_heldByAll_2 : decode cX9_heldByAll 2 = .ok (.iconst 0, 1) := by decide +kernel
theorem dX9_heldByAll_3 : decode cX9_heldByAll 3 = .ok (.istore_n 2, 1) := by decide +kernel
theorem dX9_heldByAll_4 : decode cX9_heldByAll 4 = .ok (.iload_n 2, 1) := by decide +kernel
theorem dX9_heldByAll_5 : decode cX9_heldByAll 5 = .ok (.aload_n 0, 1) := by decide +kernel
theorem dX9_heldByAll_6 : decode cX9_heldByAll 6 = .ok (.getfield 158, 3) := by decide +kernel
theorem dX9_heldByAll_9 : decode cX9_heldByAll 9 = .ok (.if_icmp .ge 17, 3) := by decide +kernel
theorem dX9_heldByAll_12 : decode cX9_heldByAll 12 = .ok (.iload_n 1, 1) := by decide +kernel
theorem dX9_heldByAll_13 : decode cX9_heldByAll 13 = .ok (.aload_n 0, 1) := by decide +kernel
theorem dX9_heldByAll_14 : decode cX9_heldByAll 14 = .ok (.iload_n 2, 1) := by decide +kernel
theorem dX9_heldByAll_15 : decode cX9_heldByAll 15 = .ok (.invokevirtual 187, 3) := by decide +kernel
theorem dX9_heldByAll_18 : decode cX9_heldByAll 18 = .ok (.ior, 1) := by decide +kernel
theorem dX9_heldByAll_19 : decode cX9_heldByAll 19 = .ok (.istore_n 1, 1) := by decide +kernel
theorem dX9_heldByAll_20 : decode cX9_heldByAll 20 = .ok (.iinc 2 1, 3) := by decide +kernel
theorem dX9_heldByAll_23 : decode cX9_heldByAll 23 = .ok (.goto (-19), 3) := by decide +kernel
theorem dX9_heldByAll_26 : decode cX9_heldByAll 26 = .ok (.iload_n 1, 1) := by decide +kernel
theorem dX9_heldByAll_27 : decode cX9_heldByAll 27 = .ok (.ireturn, 1) := by decide +kernel
def fX9_heldByAll_4  : Nat → Nat → Int32 → Int32 → gz_H → Option (Int32 × gz_H)
  | 0, _, _, _, _ => none
  | n + 1, a0, x1, x2, h =>
    gz_ck (gz_sh h a0 9 29) <|
    if (h.2.1 a0 3) ≤ x2 then (
     some (x1, h)
    ) else (
     gz_b2 (fX9_heldBy a0 x2 h) fun y_4 h_3 =>
     fX9_heldByAll_4 n a0 (x1 ||| y_4) (x2 + 1) h_3
    )
set_option maxRecDepth 100000 in
set_option maxHeartbeats 1000000 in
theorem sX9_heldByAll_4 {G : gz_G} {d l0 s0 : Nat} {Q : Int32 → gz_H → Prop} : ∀ (n : Nat) (a0 : Nat) (x1 : Int32) (x2 : Int32) (h : gz_H), gz_g (fX9_heldByAll_4  n a0 x1 x2 h) Q → gz_Ok G mX9_heldByAll (d + 2, l0, s0, 0, 0) 4 [.ref a0, .int x1, .int x2] [] h (gz_qi Q) := by
  intro n
  induction n with
  | zero => intro a0 x1 x2 h hf; exact False.elim hf
  | succ n ih =>
    intro a0 x1 x2 h hf
    rw [fX9_heldByAll_4] at hf
    refine gz_iload_n (pc := 4) dX9_heldByAll_4 rfl rfl ?_
    refine gz_aload_n (pc := 5) dX9_heldByAll_5 rfl rfl ?_
    refine gz_gk hf (fun c_1 hf => ?_)
    refine gz_getI (pc := 6) dX9_heldByAll_6 fl_RX9_158 rfl (gz_shs c_1) ?_
    refine gz_icmp_ge (tgt := 26) (pc := 9) dX9_heldByAll_9 rfl (fun c_2 => ?_) (fun c_2 => ?_)
    · have hf := gz_gT hf c_2
      refine gz_iload_n (pc := 26) dX9_heldByAll_26 rfl rfl ?_
      exact gz_irt (pc := 27) dX9_heldByAll_27 rfl rfl hf
    · have hf := gz_gF hf c_2
      refine gz_iload_n (pc := 12) dX9_heldByAll_12 rfl rfl ?_
      refine gz_aload_n (pc := 13) dX9_heldByAll_13 rfl rfl ?_
      refine gz_iload_n (pc := 14) dX9_heldByAll_14 rfl rfl ?_
      refine gz_cVI (av := [.int x2]) (st := [.int x1]) (pc := 15) dX9_heldByAll_15 kl_RX9_187 rfl (gz_shs c_1) rfl rfl (Nat.le_of_ble_eq_true rfl) (by show d + 0 + 1 + 1 ≤ d + 2; omega) (sX9_heldBy (d := d + 0) (gz_gc hf)) (fun y_4 h_3 hf => ?_)
      refine gz_ior (pc := 18) dX9_heldByAll_18 ?_
      refine gz_istore_n (lv := [.ref a0, .int (x1 ||| y_4), .int x2]) (pc := 19) dX9_heldByAll_19 rfl (by decide) rfl ?_
      refine gz_iinc (v := x2 + 1) (lv := [.ref a0, .int (x1 ||| y_4), .int (x2 + 1)]) (pc := 20) dX9_heldByAll_20 rfl rfl (by decide) rfl ?_
      refine gz_goto (tgt := 4) (pc := 23) dX9_heldByAll_23 rfl ?_
      exact ih a0 (x1 ||| y_4) (x2 + 1) h_3 hf
def fX9_heldByAll_0  (a0 : Nat) (h : gz_H) : Option (Int32 × gz_H) :=
    fX9_heldByAll_4 gz_fu a0 (0 : Int32) (0 : Int32) h
set_option maxRecDepth 100000 in
set_option maxHeartbeats 1000000 in
theorem sX9_heldByAll_0 {G : gz_G} {d l0 s0 : Nat} {Q : Int32 → gz_H → Prop} (a0 : Nat) (h : gz_H) (hf : gz_g (fX9_heldByAll_0  a0 h) Q) : gz_Ok G mX9_heldByAll (d + 2, l0, s0, 0, 0) 0 [.ref a0, .retAddr 0, .retAddr 0] [] h (gz_qi Q) := by
  unfold fX9_heldByAll_0 at hf
  refine gz_iconst (v := (0 : Int32)) (pc := 0) dX9_heldByAll_0 rfl ?_
  refine gz_istore_n (lv := [.ref a0, .int (0 : Int32), .retAddr 0]) (pc := 1) dX9_heldByAll_1 rfl (by decide) rfl ?_
  refine gz_iconst (v := (0 : Int32)) (pc := 2) dX9_heldByAll_2 rfl ?_
  refine gz_istore_n (lv := [.ref a0, .int (0 : Int32), .int (0 : Int32)]) (pc := 3) dX9_heldByAll_3 rfl (by decide) rfl ?_
  exact sX9_heldByAll_4 gz_fu a0 (0 : Int32) (0 : Int32) h hf
def fX9_heldByAll (a0 : Nat) (h : gz_H) : Option (Int32 × gz_H) := fX9_heldByAll_0 a0 h
theorem sX9_heldByAll {G : gz_G} {d : Nat} {a0 : Nat} {h : gz_H} {Q : Int32 → gz_H → Prop} (hf : gz_g (fX9_heldByAll a0 h) Q) : gz_Cl G mX9_heldByAll (d + 2) 0 0 [.ref a0] h (gz_qi Q) := gz_cl_of (lo := [.ref a0, .retAddr 0, .retAddr 0]) (by decide) rfl rfl (Nat.le_of_ble_eq_true rfl) (sX9_heldByAll_0 a0 h hf)
theorem dX9_lostMany_0 : decode cX9_lostMany 0 = .ok (.aload_n 0, 1) := by decide +kernel
theorem dX9_lostMany_1 : decode cX9_lostMany 1 = .ok (.getfield 155, 3) := by decide +kernel
theorem dX9_lostMany_4 : decode cX9_lostMany 4 = .ok (.aload_n 0, 1) := by decide +kernel
theorem dX9_lostMany_5 : decode cX9_lostMany 5 = .ok (.invokevirtual 190, 3) := by decide +kernel
theorem dX9_lostMany_8 : decode cX9_lostMany 8 = .ok (.invokestatic 193, 3) := by decide +kernel
theorem dX9_lostMany_11 : decode cX9_lostMany 11 = .ok (.isub, 1) := by decide +kernel
theorem dX9_lostMany_12 : decode cX9_lostMany 12 = .ok (.ireturn, 1) := by decide +kernel
def fX9_lostMany_0  (a0 : Nat) (h : gz_H) : Option (Int32 × gz_H) :=
    gz_ck (gz_sh h a0 9 29) <|
    gz_b2 (fX9_heldByAll a0 h) fun y_3 h_2 =>
    gz_b2 (fX9_bits y_3 h_2) fun y_5 h_4 =>
    some ((h.2.1 a0 1) - y_5, h_4)
set_option maxRecDepth 100000 in
set_option maxHeartbeats 1000000 in
theorem sX9_lostMany_0 {G : gz_G} {d l0 s0 : Nat} {Q : Int32 → gz_H → Prop} (a0 : Nat) (h : gz_H) (hf : gz_g (fX9_lostMany_0  a0 h) Q) : gz_Ok G mX9_lostMany (d + 3, l0, s0, 0, 0) 0 [.ref a0] [] h (gz_qi Q) := by
  unfold fX9_lostMany_0 at hf
  refine gz_aload_n (pc := 0) dX9_lostMany_0 rfl rfl ?_
  refine gz_gk hf (fun c_1 hf => ?_)
  refine gz_getI (pc := 1) dX9_lostMany_1 fl_RX9_155 rfl (gz_shs c_1) ?_
  refine gz_aload_n (pc := 4) dX9_lostMany_4 rfl rfl ?_
  refine gz_cVI (av := []) (st := [.int (h.2.1 a0 1)]) (pc := 5) dX9_lostMany_5 kl_RX9_190 rfl (gz_shs c_1) rfl rfl (Nat.le_of_ble_eq_true rfl) (by show d + 0 + 2 + 1 ≤ d + 3; omega) (sX9_heldByAll (d := d + 0) (gz_gc hf)) (fun y_3 h_2 hf => ?_)
  refine gz_cSI (av := [.int y_3]) (st := [.int (h.2.1 a0 1)]) (pc := 8) dX9_lostMany_8 kl_RX9_193 rfl rfl (Nat.le_of_ble_eq_true rfl) (by show d + 2 + 0 + 1 ≤ d + 3; omega) (sX9_bits (d := d + 2) (gz_gc hf)) (fun y_5 h_4 hf => ?_)
  refine gz_isub (pc := 11) dX9_lostMany_11 ?_
  exact gz_irt (pc := 12) dX9_lostMany_12 rfl rfl hf
def fX9_lostMany (a0 : Nat) (h : gz_H) : Option (Int32 × gz_H) := fX9_lostMany_0 a0 h
theorem sX9_lostMany {G : gz_G} {d : Nat} {a0 : Nat} {h : gz_H} {Q : Int32 → gz_H → Prop} (hf : gz_g (fX9_lostMany a0 h) Q) : gz_Cl G mX9_lostMany (d + 3) 0 0 [.ref a0] h (gz_qi Q) := gz_cl_of (lo := [.ref a0]) (by decide) rfl rfl (Nat.le_of_ble_eq_true rfl) (sX9_lostMany_0 a0 h hf)
theorem dX9_toldOf_0 : decode cX9_toldOf 0 = .ok (.aload_n 0, 1) := by decide +kernel
theorem dX9_toldOf_1 : decode cX9_toldOf 1 = .ok (.getfield 7, 3) := by decide +kernel
theorem dX9_toldOf_4 : decode cX9_toldOf 4 = .ok (.iconst 2, 1) := by decide +kernel
theorem dX9_toldOf_5 : decode cX9_toldOf 5 = .ok (.iload_n 1, 1) := by decide +kernel
theorem dX9_toldOf_6 : decode cX9_toldOf 6 = .ok (.iadd, 1) := by decide +kernel
theorem dX9_toldOf_7 : decode cX9_toldOf 7 = .ok (.iaload, 1) := by decide +kernel
theorem dX9_toldOf_8 : decode cX9_toldOf 8 = .ok (.istore_n 3, 1) := by decide +kernel
theorem dX9_toldOf_9 : decode cX9_toldOf 9 = .ok (.iload_n 2, 1) := by decide +kernel
theorem dX9_toldOf_10 : decode cX9_toldOf 10 = .ok (.tableswitch 99 0 5 #[38, 45, 52, 59, 65, 83], 38) := by decide +kernel
theorem dX9_toldOf_48 : decode cX9_toldOf 48 = .ok (.aload_n 0, 1) := by decide +kernel
theorem dX9_toldOf_49 : decode cX9_toldOf 49 = .ok (.getfield 16, 3) := by decide +kernel
theorem dX9_toldOf_52 : decode cX9_toldOf 52 = .ok (.iload_n 1, 1) := by decide +kernel
theorem dX9_toldOf_53 : decode cX9_toldOf 53 = .ok (.iaload, 1) := by decide +kernel
theorem dX9_toldOf_54 : decode cX9_toldOf 54 = .ok (.ireturn, 1) := by decide +kernel
theorem dX9_toldOf_55 : decode cX9_toldOf 55 = .ok (.aload_n 0, 1) := by decide +kernel
theorem dX9_toldOf_56 : decode cX9_toldOf 56 = .ok (.getfield 19, 3) := by decide +kernel
theorem dX9_toldOf_59 : decode cX9_toldOf 59 = .ok (.iload_n 1, 1) := by decide +kernel
theorem dX9_toldOf_60 : decode cX9_toldOf 60 = .ok (.iaload, 1) := by decide +kernel
theorem dX9_toldOf_61 : decode cX9_toldOf 61 = .ok (.ireturn, 1) := by decide +kernel
theorem dX9_toldOf_62 : decode cX9_toldOf 62 = .ok (.aload_n 0, 1) := by decide +kernel
theorem dX9_toldOf_63 : decode cX9_toldOf 63 = .ok (.getfield 22, 3) := by decide +kernel
theorem dX9_toldOf_66 : decode cX9_toldOf 66 = .ok (.iload_n 1, 1) := by decide +kernel
theorem dX9_toldOf_67 : decode cX9_toldOf 67 = .ok (.iaload, 1) := by decide +kernel
theorem dX9_toldOf_68 : decode cX9_toldOf 68 = .ok (.ireturn, 1) := by decide +kernel
theorem dX9_toldOf_69 : decode cX9_toldOf 69 = .ok (.aload_n 0, 1) := by decide +kernel
theorem dX9_toldOf_70 : decode cX9_toldOf 70 = .ok (.iload_n 1, 1) := by decide +kernel
theorem dX9_toldOf_71 : decode cX9_toldOf 71 = .ok (.invokevirtual 187, 3) := by decide +kernel
theorem dX9_toldOf_74 : decode cX9_toldOf 74 = .ok (.ireturn, 1) := by decide +kernel
theorem dX9_toldOf_75 : decode cX9_toldOf 75 = .ok (.iload_n 3, 1) := by decide +kernel
theorem dX9_toldOf_76 : decode cX9_toldOf 76 = .ok (.ifCond .ne 8, 3) := by decide +kernel
theorem dX9_toldOf_79 : decode cX9_toldOf 79 = .ok (.bipush (-9), 2) := by decide +kernel
theorem dX9_toldOf_81 : decode cX9_toldOf 81 = .ok (.goto 11, 3) := by decide +kernel
theorem dX9_toldOf_84 : decode cX9_toldOf 84 = .ok (.aload_n 0, 1) := by decide +kernel
theorem dX9_toldOf_85 : decode cX9_toldOf 85 = .ok (.iload_n 1, 1) := by decide +kernel
theorem dX9_toldOf_86 : decode cX9_toldOf 86 = .ok (.iload_n 3, 1) := by decide +kernel
theorem dX9_toldOf_87 : decode cX9_toldOf 87 = .ok (.iconst 1, 1) := by decide +kernel
theorem dX9_toldOf_88 : decode cX9_toldOf 88 = .ok (.isub, 1) := by decide +kernel
theorem dX9_toldOf_89 : decode cX9_toldOf 89 = .ok (.invokevirtual 161, 3) := by decide +kernel
theorem dX9_toldOf_92 : decode cX9_toldOf 92 = .ok (.ireturn, 1) := by decide +kernel
theorem dX9_toldOf_93 : decode cX9_toldOf 93 = .ok (.iload_n 3, 1) := by decide +kernel
theorem dX9_toldOf_94 : decode cX9_toldOf 94 = .ok (.ifCond .ne 8, 3) := by decide +kernel
theorem dX9_toldOf_97 : decode cX9_toldOf 97 = .ok (.bipush (-9), 2) := by decide +kernel
theorem dX9_toldOf_99 : decode cX9_toldOf 99 = .ok (.goto 9, 3) := by decide +kernel
theorem dX9_toldOf_102 : decode cX9_toldOf 102 = .ok (.aload_n 0, 1) := by decide +kernel
theorem dX9_toldOf_103 : decode cX9_toldOf 103 = .ok (.iload_n 1, 1) := by decide +kernel
theorem dX9_toldOf_104 : decode cX9_toldOf 104 = .ok (.iconst 0, 1) := by decide +kernel
theorem dX9_toldOf_105 : decode cX9_toldOf 105 = .ok (.invokevirtual 161, 3) := by decide +kernel
theorem dX9_toldOf_108 : decode cX9_toldOf 108 = .ok (.ireturn, 1) := by decide +kernel
theorem dX9_toldOf_109 : decode cX9_toldOf 109 = .ok (.aload_n 0, 1) := by decide +kernel
theorem dX9_toldOf_110 : decode cX9_toldOf 110 = .ok (.iload_n 1, 1) := by decide +kernel
theorem dX9_toldOf_111 : decode cX9_toldOf 111 = .ok (.invokevirtual 177, 3) := by decide +kernel
theorem dX9_toldOf_114 : decode cX9_toldOf 114 = .ok (.ifCond .eq 7, 3) := by decide +kernel
theorem dX9_toldOf_117 : decode cX9_toldOf 117 = .ok (.iconst 1, 1) := by decide +kernel
theorem dX9_toldOf_118 : decode cX9_toldOf 118 = .ok (.goto 4, 3) := by decide +kernel
theorem dX9_toldOf_121 : decode cX9_toldOf 121 = .ok (.iconst 0, 1) := by decide +kernel
theorem dX9_toldOf_122 : decode cX9_toldOf 122 = .ok (.ireturn, 1) := by decide +kernel
def fX9_toldOf_0  (a0 : Nat) (x1 : Int32) (x2 : Int32) (h : gz_H) : Option (Int32 × gz_H) :=
    gz_ck (gz_sh h a0 9 29) <|
    gz_br (h.2.2.2 a0 0) fun r_2 =>
    gz_ck (gz_inb h r_2 10 ((2 : Int32) + x1)) <|
    if x2 = (0 : Int32) then (
     gz_br (h.2.2.2 a0 4) fun r_5 =>
     gz_ck (gz_inb h r_5 10 x1) <|
     some (h.2.1 r_5 x1.toNatClampNeg, h)
    ) else (
    if x2 = (1 : Int32) then (
     gz_br (h.2.2.2 a0 5) fun r_8 =>
     gz_ck (gz_inb h r_8 10 x1) <|
     some (h.2.1 r_8 x1.toNatClampNeg, h)
    ) else (
    if x2 = (2 : Int32) then (
     gz_br (h.2.2.2 a0 6) fun r_11 =>
     gz_ck (gz_inb h r_11 10 x1) <|
     some (h.2.1 r_11 x1.toNatClampNeg, h)
    ) else (
    if x2 = (3 : Int32) then (
     gz_b2 (fX9_heldBy a0 x1 h) fun y_15 h_14 =>
     some (y_15, h_14)
    ) else (
    if x2 = (4 : Int32) then (
     if (h.2.1 r_2 ((2 : Int32) + x1).toNatClampNeg) = 0 then (
      some ((-9 : Int32), h)
     ) else (
      gz_b2 (fX9_factOf a0 x1 ((h.2.1 r_2 ((2 : Int32) + x1).toNatClampNeg) - (1 : Int32)) h) fun y_19 h_18 =>
      some (y_19, h_18)
     )
    ) else (
    if x2 = (5 : Int32) then (
     if (h.2.1 r_2 ((2 : Int32) + x1).toNatClampNeg) = 0 then (
      some ((-9 : Int32), h)
     ) else (
      gz_b2 (fX9_factOf a0 x1 (0 : Int32) h) fun y_23 h_22 =>
      some (y_23, h_22)
     )
    ) else (
    gz_b2 (fX9_isGone a0 x1 h) fun y_25 h_24 =>
    if y_25 = 0 then (
     some ((0 : Int32), h_24)
    ) else (
     some ((1 : Int32), h_24)
    )
    ))))))
set_option maxRecDepth 100000 in
set_option maxHeartbeats 1000000 in
theorem sX9_toldOf_0 {G : gz_G} {d l0 s0 : Nat} {Q : Int32 → gz_H → Prop} (a0 : Nat) (x1 : Int32) (x2 : Int32) (h : gz_H) (hf : gz_g (fX9_toldOf_0  a0 x1 x2 h) Q) : gz_Ok G mX9_toldOf (d + 2, l0, s0, 0, 0) 0 [.ref a0, .int x1, .int x2, .retAddr 0] [] h (gz_qi Q) := by
  unfold fX9_toldOf_0 at hf
  refine gz_aload_n (pc := 0) dX9_toldOf_0 rfl rfl ?_
  refine gz_gk hf (fun c_1 hf => ?_)
  refine gz_gb hf (fun r_2 er_2 hf => ?_)
  refine gz_getR (pc := 1) dX9_toldOf_1 fl_RX9_7 rfl (gz_shs c_1) er_2 ?_
  refine gz_iconst (v := (2 : Int32)) (pc := 4) dX9_toldOf_4 rfl ?_
  refine gz_iload_n (pc := 5) dX9_toldOf_5 rfl rfl ?_
  refine gz_iadd (pc := 6) dX9_toldOf_6 ?_
  refine gz_gk hf (fun c_3 hf => ?_)
  refine gz_iald (pc := 7) dX9_toldOf_7 c_3 ?_
  refine gz_istore_n (lv := [.ref a0, .int x1, .int x2, .int (h.2.1 r_2 ((2 : Int32) + x1).toNatClampNeg)]) (pc := 8) dX9_toldOf_8 rfl (by decide) rfl ?_
  refine gz_iload_n (pc := 9) dX9_toldOf_9 rfl rfl ?_
  by_cases c_4 : x2 = (0 : Int32)
  · have hf := gz_gT hf c_4
    refine gz_tIn (off := 38) (tgt := 48) (pc := 10) dX9_toldOf_10 (by rw [c_4]; decide) (by rw [c_4]; decide) (by rw [c_4]; decide) rfl ?_
    refine gz_aload_n (pc := 48) dX9_toldOf_48 rfl rfl ?_
    refine gz_gb hf (fun r_5 er_5 hf => ?_)
    refine gz_getR (pc := 49) dX9_toldOf_49 fl_RX9_16 rfl (gz_shs c_1) er_5 ?_
    refine gz_iload_n (pc := 52) dX9_toldOf_52 rfl rfl ?_
    refine gz_gk hf (fun c_6 hf => ?_)
    refine gz_iald (pc := 53) dX9_toldOf_53 c_6 ?_
    exact gz_irt (pc := 54) dX9_toldOf_54 rfl rfl hf
  have hf := gz_gF hf c_4
  by_cases c_7 : x2 = (1 : Int32)
  · have hf := gz_gT hf c_7
    refine gz_tIn (off := 45) (tgt := 55) (pc := 10) dX9_toldOf_10 (by rw [c_7]; decide) (by rw [c_7]; decide) (by rw [c_7]; decide) rfl ?_
    refine gz_aload_n (pc := 55) dX9_toldOf_55 rfl rfl ?_
    refine gz_gb hf (fun r_8 er_8 hf => ?_)
    refine gz_getR (pc := 56) dX9_toldOf_56 fl_RX9_19 rfl (gz_shs c_1) er_8 ?_
    refine gz_iload_n (pc := 59) dX9_toldOf_59 rfl rfl ?_
    refine gz_gk hf (fun c_9 hf => ?_)
    refine gz_iald (pc := 60) dX9_toldOf_60 c_9 ?_
    exact gz_irt (pc := 61) dX9_toldOf_61 rfl rfl hf
  have hf := gz_gF hf c_7
  by_cases c_10 : x2 = (2 : Int32)
  · have hf := gz_gT hf c_10
    refine gz_tIn (off := 52) (tgt := 62) (pc := 10) dX9_toldOf_10 (by rw [c_10]; decide) (by rw [c_10]; decide) (by rw [c_10]; decide) rfl ?_
    refine gz_aload_n (pc := 62) dX9_toldOf_62 rfl rfl ?_
    refine gz_gb hf (fun r_11 er_11 hf => ?_)
    refine gz_getR (pc := 63) dX9_toldOf_63 fl_RX9_22 rfl (gz_shs c_1) er_11 ?_
    refine gz_iload_n (pc := 66) dX9_toldOf_66 rfl rfl ?_
    refine gz_gk hf (fun c_12 hf => ?_)
    refine gz_iald (pc := 67) dX9_toldOf_67 c_12 ?_
    exact gz_irt (pc := 68) dX9_toldOf_68 rfl rfl hf
  have hf := gz_gF hf c_10
  by_cases c_13 : x2 = (3 : Int32)
  · have hf := gz_gT hf c_13
    refine gz_tIn (off := 59) (tgt := 69) (pc := 10) dX9_toldOf_10 (by rw [c_13]; decide) (by rw [c_13]; decide) (by rw [c_13]; decide) rfl ?_
    refine gz_aload_n (pc := 69) dX9_toldOf_69 rfl rfl ?_
    refine gz_iload_n (pc := 70) dX9_toldOf_70 rfl rfl ?_
    refine gz_cVI (av := [.int x1]) (st := []) (pc := 71) dX9_toldOf_71 kl_RX9_187 rfl (gz_shs c_1) rfl rfl (Nat.le_of_ble_eq_true rfl) (by show d + 0 + 1 + 1 ≤ d + 2; omega) (sX9_heldBy (d := d + 0) (gz_gc hf)) (fun y_15 h_14 hf => ?_)
    exact gz_irt (pc := 74) dX9_toldOf_74 rfl rfl hf
  have hf := gz_gF hf c_13
  by_cases c_16 : x2 = (4 : Int32)
  · have hf := gz_gT hf c_16
    refine gz_tIn (off := 65) (tgt := 75) (pc := 10) dX9_toldOf_10 (by rw [c_16]; decide) (by rw [c_16]; decide) (by rw [c_16]; decide) rfl ?_
    refine gz_iload_n (pc := 75) dX9_toldOf_75 rfl rfl ?_
    refine gz_if_ne (tgt := 84) (pc := 76) dX9_toldOf_76 rfl (fun c_17 => ?_) (fun c_17 => ?_)
    · have hf := gz_gF hf c_17
      refine gz_aload_n (pc := 84) dX9_toldOf_84 rfl rfl ?_
      refine gz_iload_n (pc := 85) dX9_toldOf_85 rfl rfl ?_
      refine gz_iload_n (pc := 86) dX9_toldOf_86 rfl rfl ?_
      refine gz_iconst (v := (1 : Int32)) (pc := 87) dX9_toldOf_87 rfl ?_
      refine gz_isub (pc := 88) dX9_toldOf_88 ?_
      refine gz_cVI (av := [.int x1, .int ((h.2.1 r_2 ((2 : Int32) + x1).toNatClampNeg) - (1 : Int32))]) (st := []) (pc := 89) dX9_toldOf_89 kl_RX9_161 rfl (gz_shs c_1) rfl rfl (Nat.le_of_ble_eq_true rfl) (by show d + 1 + 0 + 1 ≤ d + 2; omega) (sX9_factOf (d := d + 1) (gz_gc hf)) (fun y_19 h_18 hf => ?_)
      exact gz_irt (pc := 92) dX9_toldOf_92 rfl rfl hf
    · have hf := gz_gT hf c_17
      refine gz_bipush (v := (-9 : Int32)) (pc := 79) dX9_toldOf_79 rfl ?_
      refine gz_goto (tgt := 92) (pc := 81) dX9_toldOf_81 rfl ?_
      exact gz_irt (pc := 92) dX9_toldOf_92 rfl rfl hf
  have hf := gz_gF hf c_16
  by_cases c_20 : x2 = (5 : Int32)
  · have hf := gz_gT hf c_20
    refine gz_tIn (off := 83) (tgt := 93) (pc := 10) dX9_toldOf_10 (by rw [c_20]; decide) (by rw [c_20]; decide) (by rw [c_20]; decide) rfl ?_
    refine gz_iload_n (pc := 93) dX9_toldOf_93 rfl rfl ?_
    refine gz_if_ne (tgt := 102) (pc := 94) dX9_toldOf_94 rfl (fun c_21 => ?_) (fun c_21 => ?_)
    · have hf := gz_gF hf c_21
      refine gz_aload_n (pc := 102) dX9_toldOf_102 rfl rfl ?_
      refine gz_iload_n (pc := 103) dX9_toldOf_103 rfl rfl ?_
      refine gz_iconst (v := (0 : Int32)) (pc := 104) dX9_toldOf_104 rfl ?_
      refine gz_cVI (av := [.int x1, .int (0 : Int32)]) (st := []) (pc := 105) dX9_toldOf_105 kl_RX9_161 rfl (gz_shs c_1) rfl rfl (Nat.le_of_ble_eq_true rfl) (by show d + 1 + 0 + 1 ≤ d + 2; omega) (sX9_factOf (d := d + 1) (gz_gc hf)) (fun y_23 h_22 hf => ?_)
      exact gz_irt (pc := 108) dX9_toldOf_108 rfl rfl hf
    · have hf := gz_gT hf c_21
      refine gz_bipush (v := (-9 : Int32)) (pc := 97) dX9_toldOf_97 rfl ?_
      refine gz_goto (tgt := 108) (pc := 99) dX9_toldOf_99 rfl ?_
      exact gz_irt (pc := 108) dX9_toldOf_108 rfl rfl hf
  have hf := gz_gF hf c_20
  refine gz_tOut (tgt := 109) (pc := 10) dX9_toldOf_10 (gz_tout 6 (fun k hk => match k, hk with | 0, _ => c_4 | 1, _ => c_7 | 2, _ => c_10 | 3, _ => c_13 | 4, _ => c_16 | 5, _ => c_20 | k + 6, hk => absurd hk (by omega))) rfl ?_
  refine gz_aload_n (pc := 109) dX9_toldOf_109 rfl rfl ?_
  refine gz_iload_n (pc := 110) dX9_toldOf_110 rfl rfl ?_
  refine gz_cVI (av := [.int x1]) (st := []) (pc := 111) dX9_toldOf_111 kl_RX9_177 rfl (gz_shs c_1) rfl rfl (Nat.le_of_ble_eq_true rfl) (by show d + 0 + 1 + 1 ≤ d + 2; omega) (sX9_isGone (d := d + 0) (gz_gc hf)) (fun y_25 h_24 hf => ?_)
  refine gz_if_eq (tgt := 121) (pc := 114) dX9_toldOf_114 rfl (fun c_26 => ?_) (fun c_26 => ?_)
  · have hf := gz_gT hf c_26
    refine gz_iconst (v := (0 : Int32)) (pc := 121) dX9_toldOf_121 rfl ?_
    exact gz_irt (pc := 122) dX9_toldOf_122 rfl rfl hf
  · have hf := gz_gF hf c_26
    refine gz_iconst (v := (1 : Int32)) (pc := 117) dX9_toldOf_117 rfl ?_
    refine gz_goto (tgt := 122) (pc := 118) dX9_toldOf_118 rfl ?_
    exact gz_irt (pc := 122) dX9_toldOf_122 rfl rfl hf
def fX9_toldOf (a0 : Nat) (x1 : Int32) (x2 : Int32) (h : gz_H) : Option (Int32 × gz_H) := fX9_toldOf_0 a0 x1 x2 h
theorem sX9_toldOf {G : gz_G} {d : Nat} {a0 : Nat} {x1 : Int32} {x2 : Int32} {h : gz_H} {Q : Int32 → gz_H → Prop} (hf : gz_g (fX9_toldOf a0 x1 x2 h) Q) : gz_Cl G mX9_toldOf (d + 2) 0 0 [.ref a0, .int x1, .int x2] h (gz_qi Q) := gz_cl_of (lo := [.ref a0, .int x1, .int x2, .retAddr 0]) (by decide) rfl rfl (Nat.le_of_ble_eq_true rfl) (sX9_toldOf_0 a0 x1 x2 h hf)
theorem dX9_goose_0 : decode cX9_goose 0 = .ok (.aload_n 0, 1) := by decide +kernel
theorem dX9_goose_1 : decode cX9_goose 1 = .ok (.iload_n 1, 1) := by decide +kernel
theorem dX9_goose_2 : decode cX9_goose 2 = .ok (.invokevirtual 196, 3) := by decide +kernel
theorem dX9_goose_5 : decode cX9_goose 5 = .ok (.ifCond .eq 28, 3) := by decide +kernel
theorem dX9_goose_8 : decode cX9_goose 8 = .ok (.iload_n 2, 1) := by decide +kernel
theorem dX9_goose_9 : decode cX9_goose 9 = .ok (.i2l, 1) := by decide +kernel
theorem dX9_goose_10 : decode cX9_goose 10 = .ok (.lconst 0, 1) := by decide +kernel
theorem dX9_goose_11 : decode cX9_goose 11 = .ok (.ldc2_w 199, 3) := by decide +kernel
theorem dX9_goose_14 : decode cX9_goose 14 = .ok (.invokestatic 74, 3) := by decide +kernel
theorem dX9_goose_17 : decode cX9_goose 17 = .ok (.ifCond .eq 16, 3) := by decide +kernel
theorem dX9_goose_20 : decode cX9_goose 20 = .ok (.aload_n 0, 1) := by decide +kernel
theorem dX9_goose_21 : decode cX9_goose 21 = .ok (.aload_n 0, 1) := by decide +kernel
theorem dX9_goose_22 : decode cX9_goose 22 = .ok (.iload_n 1, 1) := by decide +kernel
theorem dX9_goose_23 : decode cX9_goose 23 = .ok (.iload_n 2, 1) := by decide +kernel
theorem dX9_goose_24 : decode cX9_goose 24 = .ok (.invokevirtual 201, 3) := by decide +kernel
theorem dX9_goose_27 : decode cX9_goose 27 = .ok (.invokevirtual 96, 3) := by decide +kernel
theorem dX9_goose_30 : decode cX9_goose 30 = .ok (.goto 4, 3) := by decide +kernel
theorem dX9_goose_33 : decode cX9_goose 33 = .ok (.iconst (-1), 1) := by decide +kernel
theorem dX9_goose_34 : decode cX9_goose 34 = .ok (.ireturn, 1) := by decide +kernel
def fX9_goose_0  (a0 : Nat) (x1 : Int32) (x2 : Int32) (h : gz_H) : Option (Int32 × gz_H) :=
    gz_ck (gz_sh h a0 9 29) <|
    gz_b2 (fX9_isGoose a0 x1 h) fun y_2 h_1 =>
    if y_2 = 0 then (
     some ((-1 : Int32), h_1)
    ) else (
     gz_b2 (fX9_in x2.toInt64 (0 : Int64) (6 : Int64) h_1) fun y_6 h_5 =>
     if y_6 = 0 then (
      some ((-1 : Int32), h_5)
     ) else (
      gz_ck (gz_sh h_5 a0 9 29) <|
      gz_b2 (fX9_toldOf a0 x1 x2 h_5) fun y_9 h_8 =>
      gz_ck (gz_sh h_8 a0 9 29) <|
      gz_b2 (fX9_tell a0 y_9 h_8) fun y_12 h_11 =>
      some (y_12, h_11)
     )
    )
set_option maxRecDepth 100000 in
set_option maxHeartbeats 1000000 in
theorem sX9_goose_0 {G : gz_G} {d l0 s0 : Nat} {Q : Int32 → gz_H → Prop} (a0 : Nat) (x1 : Int32) (x2 : Int32) (h : gz_H) (hf : gz_g (fX9_goose_0  a0 x1 x2 h) Q) : gz_Ok G mX9_goose (d + 3, l0, s0, 0, 0) 0 [.ref a0, .int x1, .int x2] [] h (gz_qi Q) := by
  unfold fX9_goose_0 at hf
  refine gz_aload_n (pc := 0) dX9_goose_0 rfl rfl ?_
  refine gz_iload_n (pc := 1) dX9_goose_1 rfl rfl ?_
  refine gz_gk hf (fun c_3 hf => ?_)
  refine gz_cVI (av := [.int x1]) (st := []) (pc := 2) dX9_goose_2 kl_RX9_196 rfl (gz_shs c_3) rfl rfl (Nat.le_of_ble_eq_true rfl) (by show d + 1 + 1 + 1 ≤ d + 3; omega) (sX9_isGoose (d := d + 1) (gz_gc hf)) (fun y_2 h_1 hf => ?_)
  refine gz_if_eq (tgt := 33) (pc := 5) dX9_goose_5 rfl (fun c_4 => ?_) (fun c_4 => ?_)
  · have hf := gz_gT hf c_4
    refine gz_iconst (v := (-1 : Int32)) (pc := 33) dX9_goose_33 rfl ?_
    exact gz_irt (pc := 34) dX9_goose_34 rfl rfl hf
  · have hf := gz_gF hf c_4
    refine gz_iload_n (pc := 8) dX9_goose_8 rfl rfl ?_
    refine gz_i2l (pc := 9) dX9_goose_9 ?_
    refine gz_lconst (v := (0 : Int64)) (pc := 10) dX9_goose_10 rfl ?_
    refine gz_ldc2 (v := (6 : Int64)) (pc := 11) dX9_goose_11 kc_RX9_199 ?_
    refine gz_cSI (av := [.long x2.toInt64, .long (0 : Int64), .long (6 : Int64)]) (st := []) (pc := 14) dX9_goose_14 kl_RX9_74 rfl rfl (Nat.le_of_ble_eq_true rfl) (by show d + 2 + 0 + 1 ≤ d + 3; omega) (sX9_in (d := d + 2) (gz_gc hf)) (fun y_6 h_5 hf => ?_)
    refine gz_if_eq (tgt := 33) (pc := 17) dX9_goose_17 rfl (fun c_7 => ?_) (fun c_7 => ?_)
    · have hf := gz_gT hf c_7
      refine gz_iconst (v := (-1 : Int32)) (pc := 33) dX9_goose_33 rfl ?_
      exact gz_irt (pc := 34) dX9_goose_34 rfl rfl hf
    · have hf := gz_gF hf c_7
      refine gz_aload_n (pc := 20) dX9_goose_20 rfl rfl ?_
      refine gz_aload_n (pc := 21) dX9_goose_21 rfl rfl ?_
      refine gz_iload_n (pc := 22) dX9_goose_22 rfl rfl ?_
      refine gz_iload_n (pc := 23) dX9_goose_23 rfl rfl ?_
      refine gz_gk hf (fun c_10 hf => ?_)
      refine gz_cVI (av := [.int x1, .int x2]) (st := [.ref a0]) (pc := 24) dX9_goose_24 kl_RX9_201 rfl (gz_shs c_10) rfl rfl (Nat.le_of_ble_eq_true rfl) (by show d + 0 + 2 + 1 ≤ d + 3; omega) (sX9_toldOf (d := d + 0) (gz_gc hf)) (fun y_9 h_8 hf => ?_)
      refine gz_gk hf (fun c_13 hf => ?_)
      refine gz_cVI (av := [.int y_9]) (st := []) (pc := 27) dX9_goose_27 kl_RX9_96 rfl (gz_shs c_13) rfl rfl (Nat.le_of_ble_eq_true rfl) (by show d + 2 + 0 + 1 ≤ d + 3; omega) (sX9_tell (d := d + 2) (gz_gc hf)) (fun y_12 h_11 hf => ?_)
      refine gz_goto (tgt := 34) (pc := 30) dX9_goose_30 rfl ?_
      exact gz_irt (pc := 34) dX9_goose_34 rfl rfl hf
def fX9_goose (a0 : Nat) (x1 : Int32) (x2 : Int32) (h : gz_H) : Option (Int32 × gz_H) := fX9_goose_0 a0 x1 x2 h
theorem sX9_goose {G : gz_G} {d : Nat} {a0 : Nat} {x1 : Int32} {x2 : Int32} {h : gz_H} {Q : Int32 → gz_H → Prop} (hf : gz_g (fX9_goose a0 x1 x2 h) Q) : gz_Cl G mX9_goose (d + 3) 0 0 [.ref a0, .int x1, .int x2] h (gz_qi Q) := gz_cl_of (lo := [.ref a0, .int x1, .int x2]) (by decide) rfl rfl (Nat.le_of_ble_eq_true rfl) (sX9_goose_0 a0 x1 x2 h hf)
theorem dX9_isOf_0 : decode cX9_isOf 0 = .ok (.aload_n 0, 1) := by decide +kernel
theorem dX9_isOf_1 : decode cX9_isOf 1 = .ok (.getfield 16, 3) := by decide +kernel
theorem dX9_isOf_4 : decode cX9_isOf 4 = .ok (.iload_n 1, 1) := by decide +kernel
theorem dX9_isOf_5 : decode cX9_isOf 5 = .ok (.iaload, 1) := by decide +kernel
theorem dX9_isOf_6 : decode cX9_isOf 6 = .ok (.iload_n 2, 1) := by decide +kernel
theorem dX9_isOf_7 : decode cX9_isOf 7 = .ok (.if_icmp .eq 33, 3) := by decide +kernel
theorem dX9_isOf_10 : decode cX9_isOf 10 = .ok (.iload_n 2, 1) := by decide +kernel
theorem dX9_isOf_11 : decode cX9_isOf 11 = .ok (.iconst 1, 1) := by decide +kernel
theorem dX9_isOf_12 : decode cX9_isOf 12 = .ok (.if_icmp .ne 13, 3) := by decide +kernel
theorem dX9_isOf_15 : decode cX9_isOf 15 = .ok (.aload_n 0, 1) := by decide +kernel
theorem dX9_isOf_16 : decode cX9_isOf 16 = .ok (.getfield 16, 3) := by decide +kernel
theorem dX9_isOf_19 : decode cX9_isOf 19 = .ok (.iload_n 1, 1) := by decide +kernel
theorem dX9_isOf_20 : decode cX9_isOf 20 = .ok (.iaload, 1) := by decide +kernel
theorem dX9_isOf_21 : decode cX9_isOf 21 = .ok (.iconst 5, 1) := by decide +kernel
theorem dX9_isOf_22 : decode cX9_isOf 22 = .ok (.if_icmp .eq 18, 3) := by decide +kernel
theorem dX9_isOf_25 : decode cX9_isOf 25 = .ok (.iload_n 2, 1) := by decide +kernel
theorem dX9_isOf_26 : decode cX9_isOf 26 = .ok (.iconst 3, 1) := by decide +kernel
theorem dX9_isOf_27 : decode cX9_isOf 27 = .ok (.if_icmp .ne 17, 3) := by decide +kernel
theorem dX9_isOf_30 : decode cX9_isOf 30 = .ok (.aload_n 0, 1) := by decide +kernel
theorem dX9_isOf_31 : decode cX9_isOf 31 = .ok (.getfield 16, 3) := by decide +kernel
theorem dX9_isOf_34 : decode cX9_isOf 34 = .ok (.iload_n 1, 1) := by decide +kernel
theorem dX9_isOf_35 : decode cX9_isOf 35 = .ok (.iaload, 1) := by decide +kernel
theorem dX9_isOf_36 : decode cX9_isOf 36 = .ok (.iconst 4, 1) := by decide +kernel
theorem dX9_isOf_37 : decode cX9_isOf 37 = .ok (.if_icmp .ne 7, 3) := by decide +kernel
theorem dX9_isOf_40 : decode cX9_isOf 40 = .ok (.iconst 1, 1) := by decide +kernel
theorem dX9_isOf_41 : decode cX9_isOf 41 = .ok (.goto 4, 3) := by decide +kernel
theorem dX9_isOf_44 : decode cX9_isOf 44 = .ok (.iconst 0, 1) := by decide +kernel
theorem dX9_isOf_45 : decode cX9_isOf 45 = .ok (.ireturn, 1) := by decide +kernel
def fX9_isOf_40   (h : gz_H) : Option (Int32 × gz_H) :=
    some ((1 : Int32), h)
set_option maxRecDepth 100000 in
set_option maxHeartbeats 1000000 in
theorem sX9_isOf_40 {G : gz_G} {d l0 s0 : Nat} {Q : Int32 → gz_H → Prop}  (h : gz_H) (hf : gz_g (fX9_isOf_40   h) Q) : gz_Ok G mX9_isOf (d + 0, l0, s0, 0, 0) 40 [.retAddr 0, .retAddr 0, .retAddr 0] [] h (gz_qi Q) := by
  unfold fX9_isOf_40 at hf
  refine gz_iconst (v := (1 : Int32)) (pc := 40) dX9_isOf_40 rfl ?_
  refine gz_goto (tgt := 45) (pc := 41) dX9_isOf_41 rfl ?_
  exact gz_irt (pc := 45) dX9_isOf_45 rfl rfl hf
def fX9_isOf_25  (a0 : Nat) (x1 : Int32) (x2 : Int32) (h : gz_H) : Option (Int32 × gz_H) :=
    if x2 = (3 : Int32) then (
     gz_ck (gz_sh h a0 9 29) <|
     gz_br (h.2.2.2 a0 4) fun r_3 =>
     gz_ck (gz_inb h r_3 10 x1) <|
     if (h.2.1 r_3 x1.toNatClampNeg) = (4 : Int32) then (
      fX9_isOf_40 h
     ) else (
      some ((0 : Int32), h)
     )
    ) else (
     some ((0 : Int32), h)
    )
set_option maxRecDepth 100000 in
set_option maxHeartbeats 1000000 in
theorem sX9_isOf_25 {G : gz_G} {d l0 s0 : Nat} {Q : Int32 → gz_H → Prop} (a0 : Nat) (x1 : Int32) (x2 : Int32) (h : gz_H) (hf : gz_g (fX9_isOf_25  a0 x1 x2 h) Q) : gz_Ok G mX9_isOf (d + 0, l0, s0, 0, 0) 25 [.ref a0, .int x1, .int x2] [] h (gz_qi Q) := by
  unfold fX9_isOf_25 at hf
  refine gz_iload_n (pc := 25) dX9_isOf_25 rfl rfl ?_
  refine gz_iconst (v := (3 : Int32)) (pc := 26) dX9_isOf_26 rfl ?_
  refine gz_icmp_ne (tgt := 44) (pc := 27) dX9_isOf_27 rfl (fun c_1 => ?_) (fun c_1 => ?_)
  · have hf := gz_gF hf c_1
    refine gz_iconst (v := (0 : Int32)) (pc := 44) dX9_isOf_44 rfl ?_
    exact gz_irt (pc := 45) dX9_isOf_45 rfl rfl hf
  · have hf := gz_gT hf c_1
    refine gz_aload_n (pc := 30) dX9_isOf_30 rfl rfl ?_
    refine gz_gk hf (fun c_2 hf => ?_)
    refine gz_gb hf (fun r_3 er_3 hf => ?_)
    refine gz_getR (pc := 31) dX9_isOf_31 fl_RX9_16 rfl (gz_shs c_2) er_3 ?_
    refine gz_iload_n (pc := 34) dX9_isOf_34 rfl rfl ?_
    refine gz_gk hf (fun c_4 hf => ?_)
    refine gz_iald (pc := 35) dX9_isOf_35 c_4 ?_
    refine gz_iconst (v := (4 : Int32)) (pc := 36) dX9_isOf_36 rfl ?_
    refine gz_icmp_ne (tgt := 44) (pc := 37) dX9_isOf_37 rfl (fun c_5 => ?_) (fun c_5 => ?_)
    · have hf := gz_gF hf c_5
      refine gz_iconst (v := (0 : Int32)) (pc := 44) dX9_isOf_44 rfl ?_
      exact gz_irt (pc := 45) dX9_isOf_45 rfl rfl hf
    · have hf := gz_gT hf c_5
      refine gz_fg (lv := [.retAddr 0, .retAddr 0, .retAddr 0]) ⟨Or.inl rfl, ⟨Or.inl rfl, ⟨Or.inl rfl, trivial⟩⟩⟩ ?_
      exact sX9_isOf_40 h hf
def fX9_isOf_0  (a0 : Nat) (x1 : Int32) (x2 : Int32) (h : gz_H) : Option (Int32 × gz_H) :=
    gz_ck (gz_sh h a0 9 29) <|
    gz_br (h.2.2.2 a0 4) fun r_2 =>
    gz_ck (gz_inb h r_2 10 x1) <|
    if (h.2.1 r_2 x1.toNatClampNeg) = x2 then (
     fX9_isOf_40 h
    ) else (
     if x2 = (1 : Int32) then (
      if (h.2.1 r_2 x1.toNatClampNeg) = (5 : Int32) then (
       fX9_isOf_40 h
      ) else (
       fX9_isOf_25 a0 x1 x2 h
      )
     ) else (
      fX9_isOf_25 a0 x1 x2 h
     )
    )
set_option maxRecDepth 100000 in
set_option maxHeartbeats 1000000 in
theorem sX9_isOf_0 {G : gz_G} {d l0 s0 : Nat} {Q : Int32 → gz_H → Prop} (a0 : Nat) (x1 : Int32) (x2 : Int32) (h : gz_H) (hf : gz_g (fX9_isOf_0  a0 x1 x2 h) Q) : gz_Ok G mX9_isOf (d + 0, l0, s0, 0, 0) 0 [.ref a0, .int x1, .int x2] [] h (gz_qi Q) := by
  unfold fX9_isOf_0 at hf
  refine gz_aload_n (pc := 0) dX9_isOf_0 rfl rfl ?_
  refine gz_gk hf (fun c_1 hf => ?_)
  refine gz_gb hf (fun r_2 er_2 hf => ?_)
  refine gz_getR (pc := 1) dX9_isOf_1 fl_RX9_16 rfl (gz_shs c_1) er_2 ?_
  refine gz_iload_n (pc := 4) dX9_isOf_4 rfl rfl ?_
  refine gz_gk hf (fun c_3 hf => ?_)
  refine gz_iald (pc := 5) dX9_isOf_5 c_3 ?_
  refine gz_iload_n (pc := 6) dX9_isOf_6 rfl rfl ?_
  refine gz_icmp_eq (tgt := 40) (pc := 7) dX9_isOf_7 rfl (fun c_4 => ?_) (fun c_4 => ?_)
  · have hf := gz_gT hf c_4
    refine gz_fg (lv := [.retAddr 0, .retAddr 0, .retAddr 0]) ⟨Or.inl rfl, ⟨Or.inl rfl, ⟨Or.inl rfl, trivial⟩⟩⟩ ?_
    exact sX9_isOf_40 h hf
  · have hf := gz_gF hf c_4
    refine gz_iload_n (pc := 10) dX9_isOf_10 rfl rfl ?_
    refine gz_iconst (v := (1 : Int32)) (pc := 11) dX9_isOf_11 rfl ?_
    refine gz_icmp_ne (tgt := 25) (pc := 12) dX9_isOf_12 rfl (fun c_5 => ?_) (fun c_5 => ?_)
    · have hf := gz_gF hf c_5
      exact sX9_isOf_25 a0 x1 x2 h hf
    · have hf := gz_gT hf c_5
      refine gz_aload_n (pc := 15) dX9_isOf_15 rfl rfl ?_
      refine gz_getR (pc := 16) dX9_isOf_16 fl_RX9_16 rfl (gz_shs c_1) er_2 ?_
      refine gz_iload_n (pc := 19) dX9_isOf_19 rfl rfl ?_
      refine gz_iald (pc := 20) dX9_isOf_20 c_3 ?_
      refine gz_iconst (v := (5 : Int32)) (pc := 21) dX9_isOf_21 rfl ?_
      refine gz_icmp_eq (tgt := 40) (pc := 22) dX9_isOf_22 rfl (fun c_6 => ?_) (fun c_6 => ?_)
      · have hf := gz_gT hf c_6
        refine gz_fg (lv := [.retAddr 0, .retAddr 0, .retAddr 0]) ⟨Or.inl rfl, ⟨Or.inl rfl, ⟨Or.inl rfl, trivial⟩⟩⟩ ?_
        exact sX9_isOf_40 h hf
      · have hf := gz_gF hf c_6
        exact sX9_isOf_25 a0 x1 x2 h hf
def fX9_isOf (a0 : Nat) (x1 : Int32) (x2 : Int32) (h : gz_H) : Option (Int32 × gz_H) := fX9_isOf_0 a0 x1 x2 h
theorem sX9_isOf {G : gz_G} {d : Nat} {a0 : Nat} {x1 : Int32} {x2 : Int32} {h : gz_H} {Q : Int32 → gz_H → Prop} (hf : gz_g (fX9_isOf a0 x1 x2 h) Q) : gz_Cl G mX9_isOf (d + 0) 0 0 [.ref a0, .int x1, .int x2] h (gz_qi Q) := gz_cl_of (lo := [.ref a0, .int x1, .int x2]) (by decide) rfl rfl (Nat.le_of_ble_eq_true rfl) (sX9_isOf_0 a0 x1 x2 h hf)
theorem dX9_tellingPlaces_0 : decode cX9_tellingPlaces 0 = .ok (.iconst 0, 1) := by decide +kernel
theorem dX9_tellingPlaces_1 : decode cX9_tellingPlaces 1 = .ok (.istore_n 2, 1) := by decide +kernel
theorem dX9_tellingPlaces_2 : decode cX9_tellingPlaces 2 = .ok (.iconst 0, 1) := by decide +kernel
theorem dX9_tellingPlaces_3 : decode cX9_tellingPlaces 3 = .ok (.istore_n 3, 1) := by decide +kernel
theorem dX9_tellingPlaces_4 : decode cX9_tellingPlaces 4 = .ok (.iload_n 3, 1) := by decide +kernel
theorem dX9_tellingPlaces_5 : decode cX9_tellingPlaces 5 = .ok (.bipush 6, 2) := by decide +kernel
theorem dX9_tellingPlaces_7 : decode cX9_tellingPlaces 7 = .ok (.if_icmp .ge 26, 3) := by decide +kernel
theorem dX9_tellingPlaces_10 : decode cX9_tellingPlaces 10 = .ok (.iload_n 2, 1) := by decide +kernel
theorem dX9_tellingPlaces_11 : decode cX9_tellingPlaces 11 = .ok (.aload_n 0, 1) := by decide +kernel
theorem dX9_tellingPlaces_12 : decode cX9_tellingPlaces 12 = .ok (.iload_n 1, 1) := by decide +kernel
theorem dX9_tellingPlaces_13 : decode cX9_tellingPlaces 13 = .ok (.iload_n 3, 1) := by decide +kernel
theorem dX9_tellingPlaces_14 : decode cX9_tellingPlaces 14 = .ok (.invokevirtual 184, 3) := by decide +kernel
theorem dX9_tellingPlaces_17 : decode cX9_tellingPlaces 17 = .ok (.ifCond .eq 7, 3) := by decide +kernel
theorem dX9_tellingPlaces_20 : decode cX9_tellingPlaces 20 = .ok (.iconst 1, 1) := by decide +kernel
theorem dX9_tellingPlaces_21 : decode cX9_tellingPlaces 21 = .ok (.goto 4, 3) := by decide +kernel
theorem dX9_tellingPlaces_24 : decode cX9_tellingPlaces 24 = .ok (.iconst 0, 1) := by decide +kernel
theorem dX9_tellingPlaces_25 : decode cX9_tellingPlaces 25 = .ok (.iadd, 1) := by decide +kernel
theorem dX9_tellingPlaces_26 : decode cX9_tellingPlaces 26 = .ok (.istore_n 2, 1) := by decide +kernel
theorem dX9_tellingPlaces_27 : decode cX9_tellingPlaces 27 = .ok (.iinc 3 1, 3) := by decide +kernel
theorem dX9_tellingPlaces_30 : decode cX9_tellingPlaces 30 = .ok (.goto (-26), 3) := by decide +kernel
theorem dX9_tellingPlaces_33 : decode cX9_tellingPlaces 33 = .ok (.iload_n 2, 1) := by decide +kernel
theorem dX9_tellingPlaces_34 : decode cX9_tellingPlaces 34 = .ok (.ireturn, 1) := by decide +kernel
def fX9_tellingPlaces_25 (k4 : Nat → Int32 → Int32 → Int32 → gz_H → Option (Int32 × gz_H)) (a0 : Nat) (x1 : Int32) (x3 : Int32) (w0 : Int32) (w1 : Int32) (h : gz_H) : Option (Int32 × gz_H) :=
    k4 a0 x1 (w0 + w1) (x3 + 1) h
set_option maxRecDepth 100000 in
set_option maxHeartbeats 1000000 in
theorem sX9_tellingPlaces_25 {G : gz_G} {d l0 s0 : Nat} {Q : Int32 → gz_H → Prop} {k4 : Nat → Int32 → Int32 → Int32 → gz_H → Option (Int32 × gz_H)} (hk4 : ∀ (a0 : Nat) (x1 : Int32) (x2 : Int32) (x3 : Int32) (h : gz_H), gz_g (k4 a0 x1 x2 x3 h) Q → gz_Ok G mX9_tellingPlaces (d + 3, l0, s0, 0, 0) 4 [.ref a0, .int x1, .int x2, .int x3] [] h (gz_qi Q)) (a0 : Nat) (x1 : Int32) (x3 : Int32) (w0 : Int32) (w1 : Int32) (h : gz_H) (hf : gz_g (fX9_tellingPlaces_25 k4 a0 x1 x3 w0 w1 h) Q) : gz_Ok G mX9_tellingPlaces (d + 3, l0, s0, 0, 0) 25 [.ref a0, .int x1, .retAddr 0, .int x3] [.int w1, .int w0] h (gz_qi Q) := by
  unfold fX9_tellingPlaces_25 at hf
  refine gz_iadd (pc := 25) dX9_tellingPlaces_25 ?_
  refine gz_istore_n (lv := [.ref a0, .int x1, .int (w0 + w1), .int x3]) (pc := 26) dX9_tellingPlaces_26 rfl (by decide) rfl ?_
  refine gz_iinc (v := x3 + 1) (lv := [.ref a0, .int x1, .int (w0 + w1), .int (x3 + 1)]) (pc := 27) dX9_tellingPlaces_27 rfl rfl (by decide) rfl ?_
  refine gz_goto (tgt := 4) (pc := 30) dX9_tellingPlaces_30 rfl ?_
  exact hk4 a0 x1 (w0 + w1) (x3 + 1) h hf
def fX9_tellingPlaces_4  : Nat → Nat → Int32 → Int32 → Int32 → gz_H → Option (Int32 × gz_H)
  | 0, _, _, _, _, _ => none
  | n + 1, a0, x1, x2, x3, h =>
    if (6 : Int32) ≤ x3 then (
     some (x2, h)
    ) else (
     gz_ck (gz_sh h a0 9 29) <|
     gz_b2 (fX9_tellsAt a0 x1 x3 h) fun y_3 h_2 =>
     if y_3 = 0 then (
      fX9_tellingPlaces_25 (fun z0 z1 z2 z3 zh => fX9_tellingPlaces_4 n z0 z1 z2 z3 zh) a0 x1 x3 x2 (0 : Int32) h_2
     ) else (
      fX9_tellingPlaces_25 (fun z0 z1 z2 z3 zh => fX9_tellingPlaces_4 n z0 z1 z2 z3 zh) a0 x1 x3 x2 (1 : Int32) h_2
     )
    )
set_option maxRecDepth 100000 in
set_option maxHeartbeats 1000000 in
theorem sX9_tellingPlaces_4 {G : gz_G} {d l0 s0 : Nat} {Q : Int32 → gz_H → Prop} : ∀ (n : Nat) (a0 : Nat) (x1 : Int32) (x2 : Int32) (x3 : Int32) (h : gz_H), gz_g (fX9_tellingPlaces_4  n a0 x1 x2 x3 h) Q → gz_Ok G mX9_tellingPlaces (d + 3, l0, s0, 0, 0) 4 [.ref a0, .int x1, .int x2, .int x3] [] h (gz_qi Q) := by
  intro n
  induction n with
  | zero => intro a0 x1 x2 x3 h hf; exact False.elim hf
  | succ n ih =>
    intro a0 x1 x2 x3 h hf
    rw [fX9_tellingPlaces_4] at hf
    refine gz_iload_n (pc := 4) dX9_tellingPlaces_4 rfl rfl ?_
    refine gz_bipush (v := (6 : Int32)) (pc := 5) dX9_tellingPlaces_5 rfl ?_
    refine gz_icmp_ge (tgt := 33) (pc := 7) dX9_tellingPlaces_7 rfl (fun c_1 => ?_) (fun c_1 => ?_)
    · have hf := gz_gT hf c_1
      refine gz_iload_n (pc := 33) dX9_tellingPlaces_33 rfl rfl ?_
      exact gz_irt (pc := 34) dX9_tellingPlaces_34 rfl rfl hf
    · have hf := gz_gF hf c_1
      refine gz_iload_n (pc := 10) dX9_tellingPlaces_10 rfl rfl ?_
      refine gz_aload_n (pc := 11) dX9_tellingPlaces_11 rfl rfl ?_
      refine gz_iload_n (pc := 12) dX9_tellingPlaces_12 rfl rfl ?_
      refine gz_iload_n (pc := 13) dX9_tellingPlaces_13 rfl rfl ?_
      refine gz_gk hf (fun c_4 hf => ?_)
      refine gz_cVI (av := [.int x1, .int x3]) (st := [.int x2]) (pc := 14) dX9_tellingPlaces_14 kl_RX9_184 rfl (gz_shs c_4) rfl rfl (Nat.le_of_ble_eq_true rfl) (by show d + 0 + 2 + 1 ≤ d + 3; omega) (sX9_tellsAt (d := d + 0) (gz_gc hf)) (fun y_3 h_2 hf => ?_)
      refine gz_if_eq (tgt := 24) (pc := 17) dX9_tellingPlaces_17 rfl (fun c_5 => ?_) (fun c_5 => ?_)
      · have hf := gz_gT hf c_5
        refine gz_iconst (v := (0 : Int32)) (pc := 24) dX9_tellingPlaces_24 rfl ?_
        refine gz_fg (lv := [.ref a0, .int x1, .retAddr 0, .int x3]) ⟨Or.inr rfl, ⟨Or.inr rfl, ⟨Or.inl rfl, ⟨Or.inr rfl, trivial⟩⟩⟩⟩ ?_
        exact sX9_tellingPlaces_25 ih a0 x1 x3 x2 (0 : Int32) h_2 hf
      · have hf := gz_gF hf c_5
        refine gz_iconst (v := (1 : Int32)) (pc := 20) dX9_tellingPlaces_20 rfl ?_
        refine gz_goto (tgt := 25) (pc := 21) dX9_tellingPlaces_21 rfl ?_
        refine gz_fg (lv := [.ref a0, .int x1, .retAddr 0, .int x3]) ⟨Or.inr rfl, ⟨Or.inr rfl, ⟨Or.inl rfl, ⟨Or.inr rfl, trivial⟩⟩⟩⟩ ?_
        exact sX9_tellingPlaces_25 ih a0 x1 x3 x2 (1 : Int32) h_2 hf
def fX9_tellingPlaces_0  (a0 : Nat) (x1 : Int32) (h : gz_H) : Option (Int32 × gz_H) :=
    fX9_tellingPlaces_4 gz_fu a0 x1 (0 : Int32) (0 : Int32) h
set_option maxRecDepth 100000 in
set_option maxHeartbeats 1000000 in
theorem sX9_tellingPlaces_0 {G : gz_G} {d l0 s0 : Nat} {Q : Int32 → gz_H → Prop} (a0 : Nat) (x1 : Int32) (h : gz_H) (hf : gz_g (fX9_tellingPlaces_0  a0 x1 h) Q) : gz_Ok G mX9_tellingPlaces (d + 3, l0, s0, 0, 0) 0 [.ref a0, .int x1, .retAddr 0, .retAddr 0] [] h (gz_qi Q) := by
  unfold fX9_tellingPlaces_0 at hf
  refine gz_iconst (v := (0 : Int32)) (pc := 0) dX9_tellingPlaces_0 rfl ?_
  refine gz_istore_n (lv := [.ref a0, .int x1, .int (0 : Int32), .retAddr 0]) (pc := 1) dX9_tellingPlaces_1 rfl (by decide) rfl ?_
  refine gz_iconst (v := (0 : Int32)) (pc := 2) dX9_tellingPlaces_2 rfl ?_
  refine gz_istore_n (lv := [.ref a0, .int x1, .int (0 : Int32), .int (0 : Int32)]) (pc := 3) dX9_tellingPlaces_3 rfl (by decide) rfl ?_
  exact sX9_tellingPlaces_4 gz_fu a0 x1 (0 : Int32) (0 : Int32) h hf
def fX9_tellingPlaces (a0 : Nat) (x1 : Int32) (h : gz_H) : Option (Int32 × gz_H) := fX9_tellingPlaces_0 a0 x1 h
theorem sX9_tellingPlaces {G : gz_G} {d : Nat} {a0 : Nat} {x1 : Int32} {h : gz_H} {Q : Int32 → gz_H → Prop} (hf : gz_g (fX9_tellingPlaces a0 x1 h) Q) : gz_Cl G mX9_tellingPlaces (d + 3) 0 0 [.ref a0, .int x1] h (gz_qi Q) := gz_cl_of (lo := [.ref a0, .int x1, .retAddr 0, .retAddr 0]) (by decide) rfl rfl (Nat.le_of_ble_eq_true rfl) (sX9_tellingPlaces_0 a0 x1 h hf)
theorem dX9_toldTwice_0 : decode cX9_toldTwice 0 = .ok (.iconst 0, 1) := by decide +kernel
theorem dX9_toldTwice_1 : decode cX9_toldTwice 1 = .ok (.istore_n 2, 1) := by decide +kernel
theorem dX9_toldTwice_2 : decode cX9_toldTwice 2 = .ok (.iconst 0, 1) := by decide +kernel
theorem dX9_toldTwice_3 : decode cX9_toldTwice 3 = .ok (.istore_n 3, 1) := by decide +kernel
theorem dX9_toldTwice_4 : decode cX9_toldTwice 4 = .ok (.iconst 0, 1) := by decide +kernel
theorem dX9_toldTwice_5 : decode cX9_toldTwice 5 = .ok (.istore 4, 2) := by decide +kernel
theorem dX9_toldTwice_7 : decode cX9_toldTwice 7 = .ok (.iload 4, 2) := by decide +kernel
theorem dX9_toldTwice_9 : decode cX9_toldTwice 9 = .ok (.bipush 6, 2) := by decide +kernel
theorem dX9_toldTwice_11 : decode cX9_toldTwice 11 = .ok (.if_icmp .ge 30, 3) := by decide +kernel
theorem dX9_toldTwice_14 : decode cX9_toldTwice 14 = .ok (.aload_n 0, 1) := by decide +kernel
theorem dX9_toldTwice_15 : decode cX9_toldTwice 15 = .ok (.iload_n 1, 1) := by decide +kernel
theorem dX9_toldTwice_16 : decode cX9_toldTwice 16 = .ok (.iload 4, 2) := by decide +kernel
theorem dX9_toldTwice_18 : decode cX9_toldTwice 18 = .ok (.invokevirtual 184, 3) := by decide +kernel
theorem dX9_toldTwice_21 : decode cX9_toldTwice 21 = .ok (.istore 5, 2) := by decide +kernel
theorem dX9_toldTwice_23 : decode cX9_toldTwice 23 = .ok (.iload_n 3, 1) := by decide +kernel
theorem dX9_toldTwice_24 : decode cX9_toldTwice 24 = .ok (.iload_n 2, 1) := by decide +kernel
theorem dX9_toldTwice_25 : decode cX9_toldTwice 25 = .ok (.iload 5, 2) := by decide +kernel
theorem dX9_toldTwice_27 : decode cX9_toldTwice 27 = .ok (.iand, 1) := by decide +kernel
theorem dX9_toldTwice_28 : decode cX9_toldTwice 28 = .ok (.ior, 1) := by decide +kernel
theorem dX9_toldTwice_29 : decode cX9_toldTwice 29 = .ok (.istore_n 3, 1) := by decide +kernel
theorem dX9_toldTwice_30 : decode cX9_toldTwice 30 = .ok (.iload_n 2, 1) := by decide +kernel
theorem dX9_toldTwice_31 : decode cX9_toldTwice 31 = .ok (.iload 5, 2) := by decide +kernel
theorem dX9_toldTwice_33 : decode cX9_toldTwice 33 = .ok (.ior, 1) := by decide +kernel
theorem dX9_toldTwice_34 : decode cX9_toldTwice 34 = .ok (.istore_n 2, 1) := by decide +kernel
theorem dX9_toldTwice_35 : decode cX9_toldTwice 35 = .ok (.iinc 4 1, 3) := by decide +kernel
theorem dX9_toldTwice_38 : decode cX9_toldTwice 38 = .ok (.goto (-31), 3) := by decide +kernel
theorem dX9_toldTwice_41 : decode cX9_toldTwice 41 = .ok (.iload_n 3, 1) := by decide +kernel
theorem dX9_toldTwice_42 : decode cX9_toldTwice 42 = .ok (.invokestatic 193, 3) := by decide +kernel
theorem dX9_toldTwice_45 : decode cX9_toldTwice 45 = .ok (.ireturn, 1) := by decide +kernel
def fX9_toldTwice_7  : Nat → Nat → Int32 → Int32 → Int32 → Int32 → gz_H → Option (Int32 × gz_H)
  | 0, _, _, _, _, _, _ => none
  | n + 1, a0, x1, x2, x3, x4, h =>
    if (6 : Int32) ≤ x4 then (
     gz_b2 (fX9_bits x3 h) fun y_3 h_2 =>
     some (y_3, h_2)
    ) else (
     gz_ck (gz_sh h a0 9 29) <|
     gz_b2 (fX9_tellsAt a0 x1 x4 h) fun y_5 h_4 =>
     fX9_toldTwice_7 n a0 x1 (x2 ||| y_5) (x3 ||| (x2 &&& y_5)) (x4 + 1) h_4
    )
set_option maxRecDepth 100000 in
set_option maxHeartbeats 1000000 in
theorem sX9_toldTwice_7 {G : gz_G} {d l0 s0 : Nat} {Q : Int32 → gz_H → Prop} : ∀ (n : Nat) (a0 : Nat) (x1 : Int32) (x2 : Int32) (x3 : Int32) (x4 : Int32) (h : gz_H), gz_g (fX9_toldTwice_7  n a0 x1 x2 x3 x4 h) Q → gz_Ok G mX9_toldTwice (d + 3, l0, s0, 0, 0) 7 [.ref a0, .int x1, .int x2, .int x3, .int x4, .retAddr 0] [] h (gz_qi Q) := by
  intro n
  induction n with
  | zero => intro a0 x1 x2 x3 x4 h hf; exact False.elim hf
  | succ n ih =>
    intro a0 x1 x2 x3 x4 h hf
    rw [fX9_toldTwice_7] at hf
    refine gz_iload (pc := 7) dX9_toldTwice_7 rfl ?_
    refine gz_bipush (v := (6 : Int32)) (pc := 9) dX9_toldTwice_9 rfl ?_
    refine gz_icmp_ge (tgt := 41) (pc := 11) dX9_toldTwice_11 rfl (fun c_1 => ?_) (fun c_1 => ?_)
    · have hf := gz_gT hf c_1
      refine gz_iload_n (pc := 41) dX9_toldTwice_41 rfl rfl ?_
      refine gz_cSI (av := [.int x3]) (st := []) (pc := 42) dX9_toldTwice_42 kl_RX9_193 rfl rfl (Nat.le_of_ble_eq_true rfl) (by show d + 2 + 0 + 1 ≤ d + 3; omega) (sX9_bits (d := d + 2) (gz_gc hf)) (fun y_3 h_2 hf => ?_)
      exact gz_irt (pc := 45) dX9_toldTwice_45 rfl rfl hf
    · have hf := gz_gF hf c_1
      refine gz_aload_n (pc := 14) dX9_toldTwice_14 rfl rfl ?_
      refine gz_iload_n (pc := 15) dX9_toldTwice_15 rfl rfl ?_
      refine gz_iload (pc := 16) dX9_toldTwice_16 rfl ?_
      refine gz_gk hf (fun c_6 hf => ?_)
      refine gz_cVI (av := [.int x1, .int x4]) (st := []) (pc := 18) dX9_toldTwice_18 kl_RX9_184 rfl (gz_shs c_6) rfl rfl (Nat.le_of_ble_eq_true rfl) (by show d + 0 + 2 + 1 ≤ d + 3; omega) (sX9_tellsAt (d := d + 0) (gz_gc hf)) (fun y_5 h_4 hf => ?_)
      refine gz_istore (lv := [.ref a0, .int x1, .int x2, .int x3, .int x4, .int y_5]) (pc := 21) dX9_toldTwice_21 (by decide) rfl ?_
      refine gz_iload_n (pc := 23) dX9_toldTwice_23 rfl rfl ?_
      refine gz_iload_n (pc := 24) dX9_toldTwice_24 rfl rfl ?_
      refine gz_iload (pc := 25) dX9_toldTwice_25 rfl ?_
      refine gz_iand (pc := 27) dX9_toldTwice_27 ?_
      refine gz_ior (pc := 28) dX9_toldTwice_28 ?_
      refine gz_istore_n (lv := [.ref a0, .int x1, .int x2, .int (x3 ||| (x2 &&& y_5)), .int x4, .int y_5]) (pc := 29) dX9_toldTwice_29 rfl (by decide) rfl ?_
      refine gz_iload_n (pc := 30) dX9_toldTwice_30 rfl rfl ?_
      refine gz_iload (pc := 31) dX9_toldTwice_31 rfl ?_
      refine gz_ior (pc := 33) dX9_toldTwice_33 ?_
      refine gz_istore_n (lv := [.ref a0, .int x1, .int (x2 ||| y_5), .int (x3 ||| (x2 &&& y_5)), .int x4, .int y_5]) (pc := 34) dX9_toldTwice_34 rfl (by decide) rfl ?_
      refine gz_iinc (v := x4 + 1) (lv := [.ref a0, .int x1, .int (x2 ||| y_5), .int (x3 ||| (x2 &&& y_5)), .int (x4 + 1), .int y_5]) (pc := 35) dX9_toldTwice_35 rfl rfl (by decide) rfl ?_
      refine gz_goto (tgt := 7) (pc := 38) dX9_toldTwice_38 rfl ?_
      refine gz_fg (lv := [.ref a0, .int x1, .int (x2 ||| y_5), .int (x3 ||| (x2 &&& y_5)), .int (x4 + 1), .retAddr 0]) ⟨Or.inr rfl, ⟨Or.inr rfl, ⟨Or.inr rfl, ⟨Or.inr rfl, ⟨Or.inr rfl, ⟨Or.inl rfl, trivial⟩⟩⟩⟩⟩⟩ ?_
      exact ih a0 x1 (x2 ||| y_5) (x3 ||| (x2 &&& y_5)) (x4 + 1) h_4 hf
def fX9_toldTwice_0  (a0 : Nat) (x1 : Int32) (h : gz_H) : Option (Int32 × gz_H) :=
    fX9_toldTwice_7 gz_fu a0 x1 (0 : Int32) (0 : Int32) (0 : Int32) h
set_option maxRecDepth 100000 in
set_option maxHeartbeats 1000000 in
theorem sX9_toldTwice_0 {G : gz_G} {d l0 s0 : Nat} {Q : Int32 → gz_H → Prop} (a0 : Nat) (x1 : Int32) (h : gz_H) (hf : gz_g (fX9_toldTwice_0  a0 x1 h) Q) : gz_Ok G mX9_toldTwice (d + 3, l0, s0, 0, 0) 0 [.ref a0, .int x1, .retAddr 0, .retAddr 0, .retAddr 0, .retAddr 0] [] h (gz_qi Q) := by
  unfold fX9_toldTwice_0 at hf
  refine gz_iconst (v := (0 : Int32)) (pc := 0) dX9_toldTwice_0 rfl ?_
  refine gz_istore_n (lv := [.ref a0, .int x1, .int (0 : Int32), .retAddr 0, .retAddr 0, .retAddr 0]) (pc := 1) dX9_toldTwice_1 rfl (by decide) rfl ?_
  refine gz_iconst (v := (0 : Int32)) (pc := 2) dX9_toldTwice_2 rfl ?_
  refine gz_istore_n (lv := [.ref a0, .int x1, .int (0 : Int32), .int (0 : Int32), .retAddr 0, .retAddr 0]) (pc := 3) dX9_toldTwice_3 rfl (by decide) rfl ?_
  refine gz_iconst (v := (0 : Int32)) (pc := 4) dX9_toldTwice_4 rfl ?_
  refine gz_istore (lv := [.ref a0, .int x1, .int (0 : Int32), .int (0 : Int32), .int (0 : Int32), .retAddr 0]) (pc := 5) dX9_toldTwice_5 (by decide) rfl ?_
  exact sX9_toldTwice_7 gz_fu a0 x1 (0 : Int32) (0 : Int32) (0 : Int32) h hf
def fX9_toldTwice (a0 : Nat) (x1 : Int32) (h : gz_H) : Option (Int32 × gz_H) := fX9_toldTwice_0 a0 x1 h
theorem sX9_toldTwice {G : gz_G} {d : Nat} {a0 : Nat} {x1 : Int32} {h : gz_H} {Q : Int32 → gz_H → Prop} (hf : gz_g (fX9_toldTwice a0 x1 h) Q) : gz_Cl G mX9_toldTwice (d + 3) 0 0 [.ref a0, .int x1] h (gz_qi Q) := gz_cl_of (lo := [.ref a0, .int x1, .retAddr 0, .retAddr 0, .retAddr 0, .retAddr 0]) (by decide) rfl rfl (Nat.le_of_ble_eq_true rfl) (sX9_toldTwice_0 a0 x1 h hf)
theorem dX9_alone_0 : decode cX9_alone 0 = .ok (.aload_n 0, 1) := by decide +kernel
theorem dX9_alone_1 : decode cX9_alone 1 = .ok (.iload_n 1, 1) := by decide +kernel
theorem dX9_alone_2 : decode cX9_alone 2 = .ok (.invokevirtual 187, 3) := by decide +kernel
theorem dX9_alone_5 : decode cX9_alone 5 = .ok (.istore_n 2, 1) := by decide +kernel
theorem dX9_alone_6 : decode cX9_alone 6 = .ok (.iconst 0, 1) := by decide +kernel
theorem dX9_alone_7 : decode cX9_alone 7 = .ok (.istore_n 3, 1) := by decide +kernel
theorem dX9_alone_8 : decode cX9_alone 8 = .ok (.iload_n 3, 1) := by decide +kernel
theorem dX9_alone_9 : decode cX9_alone 9 = .ok (.aload_n 0, 1) := by decide +kernel
theorem dX9_alone_10 : decode cX9_alone 10 = .ok (.getfield 158, 3) := by decide +kernel
theorem dX9_alone_13 : decode cX9_alone 13 = .ok (.if_icmp .ge 28, 3) := by decide +kernel
theorem dX9_alone_16 : decode cX9_alone 16 = .ok (.iload_n 2, 1) := by decide +kernel
theorem dX9_alone_17 : decode cX9_alone 17 = .ok (.iload_n 3, 1) := by decide +kernel
theorem dX9_alone_18 : decode cX9_alone 18 = .ok (.iload_n 1, 1) := by decide +kernel
theorem dX9_alone_19 : decode cX9_alone 19 = .ok (.if_icmp .ne 7, 3) := by decide +kernel
theorem dX9_alone_22 : decode cX9_alone 22 = .ok (.iload_n 2, 1) := by decide +kernel
theorem dX9_alone_23 : decode cX9_alone 23 = .ok (.goto 10, 3) := by decide +kernel
theorem dX9_alone_26 : decode cX9_alone 26 = .ok (.aload_n 0, 1) := by decide +kernel
theorem dX9_alone_27 : decode cX9_alone 27 = .ok (.iload_n 3, 1) := by decide +kernel
theorem dX9_alone_28 : decode cX9_alone 28 = .ok (.invokevirtual 187, 3) := by decide +kernel
theorem dX9_alone_31 : decode cX9_alone 31 = .ok (.iconst (-1), 1) := by decide +kernel
theorem dX9_alone_32 : decode cX9_alone 32 = .ok (.ixor, 1) := by decide +kernel
theorem dX9_alone_33 : decode cX9_alone 33 = .ok (.iand, 1) := by decide +kernel
theorem dX9_alone_34 : decode cX9_alone 34 = .ok (.istore_n 2, 1) := by decide +kernel
theorem dX9_alone_35 : decode cX9_alone 35 = .ok (.iinc 3 1, 3) := by decide +kernel
theorem dX9_alone_38 : decode cX9_alone 38 = .ok (.goto (-30), 3) := by decide +kernel
theorem dX9_alone_41 : decode cX9_alone 41 = .ok (.iload_n 2, 1) := by decide +kernel
theorem dX9_alone_42 : decode cX9_alone 42 = .ok (.ireturn, 1) := by decide +kernel
def fX9_alone_33 (k8 : Nat → Int32 → Int32 → Int32 → gz_H → Option (Int32 × gz_H)) (a0 : Nat) (x1 : Int32) (x3 : Int32) (w0 : Int32) (w1 : Int32) (h : gz_H) : Option (Int32 × gz_H) :=
    k8 a0 x1 (w0 &&& w1) (x3 + 1) h
set_option maxRecDepth 100000 in
set_option maxHeartbeats 1000000 in
theorem sX9_alone_33 {G : gz_G} {d l0 s0 : Nat} {Q : Int32 → gz_H → Prop} {k8 : Nat → Int32 → Int32 → Int32 → gz_H → Option (Int32 × gz_H)} (hk8 : ∀ (a0 : Nat) (x1 : Int32) (x2 : Int32) (x3 : Int32) (h : gz_H), gz_g (k8 a0 x1 x2 x3 h) Q → gz_Ok G mX9_alone (d + 2, l0, s0, 0, 0) 8 [.ref a0, .int x1, .int x2, .int x3] [] h (gz_qi Q)) (a0 : Nat) (x1 : Int32) (x3 : Int32) (w0 : Int32) (w1 : Int32) (h : gz_H) (hf : gz_g (fX9_alone_33 k8 a0 x1 x3 w0 w1 h) Q) : gz_Ok G mX9_alone (d + 2, l0, s0, 0, 0) 33 [.ref a0, .int x1, .retAddr 0, .int x3] [.int w1, .int w0] h (gz_qi Q) := by
  unfold fX9_alone_33 at hf
  refine gz_iand (pc := 33) dX9_alone_33 ?_
  refine gz_istore_n (lv := [.ref a0, .int x1, .int (w0 &&& w1), .int x3]) (pc := 34) dX9_alone_34 rfl (by decide) rfl ?_
  refine gz_iinc (v := x3 + 1) (lv := [.ref a0, .int x1, .int (w0 &&& w1), .int (x3 + 1)]) (pc := 35) dX9_alone_35 rfl rfl (by decide) rfl ?_
  refine gz_goto (tgt := 8) (pc := 38) dX9_alone_38 rfl ?_
  exact hk8 a0 x1 (w0 &&& w1) (x3 + 1) h hf
def fX9_alone_8  : Nat → Nat → Int32 → Int32 → Int32 → gz_H → Option (Int32 × gz_H)
  | 0, _, _, _, _, _ => none
  | n + 1, a0, x1, x2, x3, h =>
    gz_ck (gz_sh h a0 9 29) <|
    if (h.2.1 a0 3) ≤ x3 then (
     some (x2, h)
    ) else (
     if x3 = x1 then (
      fX9_alone_33 (fun z0 z1 z2 z3 zh => fX9_alone_8 n z0 z1 z2 z3 zh) a0 x1 x3 x2 x2 h
     ) else (
      gz_b2 (fX9_heldBy a0 x3 h) fun y_5 h_4 =>
      fX9_alone_33 (fun z0 z1 z2 z3 zh => fX9_alone_8 n z0 z1 z2 z3 zh) a0 x1 x3 x2 (y_5 ^^^ (-1 : Int32)) h_4
     )
    )
set_option maxRecDepth 100000 in
set_option maxHeartbeats 1000000 in
theorem sX9_alone_8 {G : gz_G} {d l0 s0 : Nat} {Q : Int32 → gz_H → Prop} : ∀ (n : Nat) (a0 : Nat) (x1 : Int32) (x2 : Int32) (x3 : Int32) (h : gz_H), gz_g (fX9_alone_8  n a0 x1 x2 x3 h) Q → gz_Ok G mX9_alone (d + 2, l0, s0, 0, 0) 8 [.ref a0, .int x1, .int x2, .int x3] [] h (gz_qi Q) := by
  intro n
  induction n with
  | zero => intro a0 x1 x2 x3 h hf; exact False.elim hf
  | succ n ih =>
    intro a0 x1 x2 x3 h hf
    rw [fX9_alone_8] at hf
    refine gz_iload_n (pc := 8) dX9_alone_8 rfl rfl ?_
    refine gz_aload_n (pc := 9) dX9_alone_9 rfl rfl ?_
    refine gz_gk hf (fun c_1 hf => ?_)
    refine gz_getI (pc := 10) dX9_alone_10 fl_RX9_158 rfl (gz_shs c_1) ?_
    refine gz_icmp_ge (tgt := 41) (pc := 13) dX9_alone_13 rfl (fun c_2 => ?_) (fun c_2 => ?_)
    · have hf := gz_gT hf c_2
      refine gz_iload_n (pc := 41) dX9_alone_41 rfl rfl ?_
      exact gz_irt (pc := 42) dX9_alone_42 rfl rfl hf
    · have hf := gz_gF hf c_2
      refine gz_iload_n (pc := 16) dX9_alone_16 rfl rfl ?_
      refine gz_iload_n (pc := 17) dX9_alone_17 rfl rfl ?_
      refine gz_iload_n (pc := 18) dX9_alone_18 rfl rfl ?_
      refine gz_icmp_ne (tgt := 26) (pc := 19) dX9_alone_19 rfl (fun c_3 => ?_) (fun c_3 => ?_)
      · have hf := gz_gF hf c_3
        refine gz_aload_n (pc := 26) dX9_alone_26 rfl rfl ?_
        refine gz_iload_n (pc := 27) dX9_alone_27 rfl rfl ?_
        refine gz_cVI (av := [.int x3]) (st := [.int x2]) (pc := 28) dX9_alone_28 kl_RX9_187 rfl (gz_shs c_1) rfl rfl (Nat.le_of_ble_eq_true rfl) (by show d + 0 + 1 + 1 ≤ d + 2; omega) (sX9_heldBy (d := d + 0) (gz_gc hf)) (fun y_5 h_4 hf => ?_)
        refine gz_iconst (v := (-1 : Int32)) (pc := 31) dX9_alone_31 rfl ?_
        refine gz_ixor (pc := 32) dX9_alone_32 ?_
        refine gz_fg (lv := [.ref a0, .int x1, .retAddr 0, .int x3]) ⟨Or.inr rfl, ⟨Or.inr rfl, ⟨Or.inl rfl, ⟨Or.inr rfl, trivial⟩⟩⟩⟩ ?_
        exact sX9_alone_33 ih a0 x1 x3 x2 (y_5 ^^^ (-1 : Int32)) h_4 hf
      · have hf := gz_gT hf c_3
        refine gz_iload_n (pc := 22) dX9_alone_22 rfl rfl ?_
        refine gz_goto (tgt := 33) (pc := 23) dX9_alone_23 rfl ?_
        refine gz_fg (lv := [.ref a0, .int x1, .retAddr 0, .int x3]) ⟨Or.inr rfl, ⟨Or.inr rfl, ⟨Or.inl rfl, ⟨Or.inr rfl, trivial⟩⟩⟩⟩ ?_
        exact sX9_alone_33 ih a0 x1 x3 x2 x2 h hf
def fX9_alone_0  (a0 : Nat) (x1 : Int32) (h : gz_H) : Option (Int32 × gz_H) :=
    gz_ck (gz_sh h a0 9 29) <|
    gz_b2 (fX9_heldBy a0 x1 h) fun y_2 h_1 =>
    fX9_alone_8 gz_fu a0 x1 y_2 (0 : Int32) h_1
set_option maxRecDepth 100000 in
set_option maxHeartbeats 1000000 in
theorem sX9_alone_0 {G : gz_G} {d l0 s0 : Nat} {Q : Int32 → gz_H → Prop} (a0 : Nat) (x1 : Int32) (h : gz_H) (hf : gz_g (fX9_alone_0  a0 x1 h) Q) : gz_Ok G mX9_alone (d + 2, l0, s0, 0, 0) 0 [.ref a0, .int x1, .retAddr 0, .retAddr 0] [] h (gz_qi Q) := by
  unfold fX9_alone_0 at hf
  refine gz_aload_n (pc := 0) dX9_alone_0 rfl rfl ?_
  refine gz_iload_n (pc := 1) dX9_alone_1 rfl rfl ?_
  refine gz_gk hf (fun c_3 hf => ?_)
  refine gz_cVI (av := [.int x1]) (st := []) (pc := 2) dX9_alone_2 kl_RX9_187 rfl (gz_shs c_3) rfl rfl (Nat.le_of_ble_eq_true rfl) (by show d + 0 + 1 + 1 ≤ d + 2; omega) (sX9_heldBy (d := d + 0) (gz_gc hf)) (fun y_2 h_1 hf => ?_)
  refine gz_istore_n (lv := [.ref a0, .int x1, .int y_2, .retAddr 0]) (pc := 5) dX9_alone_5 rfl (by decide) rfl ?_
  refine gz_iconst (v := (0 : Int32)) (pc := 6) dX9_alone_6 rfl ?_
  refine gz_istore_n (lv := [.ref a0, .int x1, .int y_2, .int (0 : Int32)]) (pc := 7) dX9_alone_7 rfl (by decide) rfl ?_
  exact sX9_alone_8 gz_fu a0 x1 y_2 (0 : Int32) h_1 hf
def fX9_alone (a0 : Nat) (x1 : Int32) (h : gz_H) : Option (Int32 × gz_H) := fX9_alone_0 a0 x1 h
theorem sX9_alone {G : gz_G} {d : Nat} {a0 : Nat} {x1 : Int32} {h : gz_H} {Q : Int32 → gz_H → Prop} (hf : gz_g (fX9_alone a0 x1 h) Q) : gz_Cl G mX9_alone (d + 2) 0 0 [.ref a0, .int x1] h (gz_qi Q) := gz_cl_of (lo := [.ref a0, .int x1, .retAddr 0, .retAddr 0]) (by decide) rfl rfl (Nat.le_of_ble_eq_true rfl) (sX9_alone_0 a0 x1 h hf)
theorem dX9_mark_0 : decode cX9_mark 0 = .ok (.aload_n 0, 1) := by decide +kernel
theorem dX9_mark_1 : decode cX9_mark 1 = .ok (.iload_n 1, 1) := by decide +kernel
theorem dX9_mark_2 : decode cX9_mark 2 = .ok (.invokevirtual 196, 3) := by decide +kernel
theorem dX9_mark_5 : decode cX9_mark 5 = .ok (.ifCond .eq 15, 3) := by decide +kernel
theorem dX9_mark_8 : decode cX9_mark 8 = .ok (.iload_n 2, 1) := by decide +kernel
theorem dX9_mark_9 : decode cX9_mark 9 = .ok (.i2l, 1) := by decide +kernel
theorem dX9_mark_10 : decode cX9_mark 10 = .ok (.lconst 1, 1) := by decide +kernel
theorem dX9_mark_11 : decode cX9_mark 11 = .ok (.ldc2_w 72, 3) := by decide +kernel
theorem dX9_mark_14 : decode cX9_mark 14 = .ok (.invokestatic 74, 3) := by decide +kernel
theorem dX9_mark_17 : decode cX9_mark 17 = .ok (.ifCond .ne 5, 3) := by decide +kernel
theorem dX9_mark_20 : decode cX9_mark 20 = .ok (.iconst (-1), 1) := by decide +kernel
theorem dX9_mark_21 : decode cX9_mark 21 = .ok (.ireturn, 1) := by decide +kernel
theorem dX9_mark_22 : decode cX9_mark 22 = .ok (.aload_n 0, 1) := by decide +kernel
theorem dX9_mark_23 : decode cX9_mark 23 = .ok (.iload_n 1, 1) := by decide +kernel
theorem dX9_mark_24 : decode cX9_mark 24 = .ok (.iload_n 2, 1) := by decide +kernel
theorem dX9_mark_25 : decode cX9_mark 25 = .ok (.invokevirtual 204, 3) := by decide +kernel
theorem dX9_mark_28 : decode cX9_mark 28 = .ok (.ifCond .ne 9, 3) := by decide +kernel
theorem dX9_mark_31 : decode cX9_mark 31 = .ok (.aload_n 0, 1) := by decide +kernel
theorem dX9_mark_32 : decode cX9_mark 32 = .ok (.iconst 3, 1) := by decide +kernel
theorem dX9_mark_33 : decode cX9_mark 33 = .ok (.invokevirtual 84, 3) := by decide +kernel
theorem dX9_mark_36 : decode cX9_mark 36 = .ok (.ireturn, 1) := by decide +kernel
theorem dX9_mark_37 : decode cX9_mark 37 = .ok (.aload_n 0, 1) := by decide +kernel
theorem dX9_mark_38 : decode cX9_mark 38 = .ok (.iload_n 1, 1) := by decide +kernel
theorem dX9_mark_39 : decode cX9_mark 39 = .ok (.invokevirtual 177, 3) := by decide +kernel
theorem dX9_mark_42 : decode cX9_mark 42 = .ok (.ifCond .eq 5, 3) := by decide +kernel
theorem dX9_mark_45 : decode cX9_mark 45 = .ok (.iconst 0, 1) := by decide +kernel
theorem dX9_mark_46 : decode cX9_mark 46 = .ok (.ireturn, 1) := by decide +kernel
theorem dX9_mark_47 : decode cX9_mark 47 = .ok (.iload_n 2, 1) := by decide +kernel
theorem dX9_mark_48 : decode cX9_mark 48 = .ok (.tableswitch 77 1 4 #[32, 38, 44, 60], 32) := by decide +kernel
theorem dX9_mark_80 : decode cX9_mark 80 = .ok (.aload_n 0, 1) := by decide +kernel
theorem dX9_mark_81 : decode cX9_mark 81 = .ok (.iload_n 1, 1) := by decide +kernel
theorem dX9_mark_82 : decode cX9_mark 82 = .ok (.invokevirtual 207, 3) := by decide +kernel
theorem dX9_mark_85 : decode cX9_mark 85 = .ok (.ireturn, 1) := by decide +kernel
theorem dX9_mark_86 : decode cX9_mark 86 = .ok (.aload_n 0, 1) := by decide +kernel
theorem dX9_mark_87 : decode cX9_mark 87 = .ok (.iload_n 1, 1) := by decide +kernel
theorem dX9_mark_88 : decode cX9_mark 88 = .ok (.invokevirtual 210, 3) := by decide +kernel
theorem dX9_mark_91 : decode cX9_mark 91 = .ok (.ireturn, 1) := by decide +kernel
theorem dX9_mark_92 : decode cX9_mark 92 = .ok (.aload_n 0, 1) := by decide +kernel
theorem dX9_mark_93 : decode cX9_mark 93 = .ok (.getfield 19, 3) := by decide +kernel
theorem dX9_mark_96 : decode cX9_mark 96 = .ok (.iload_n 1, 1) := by decide +kernel
theorem dX9_mark_97 : decode cX9_mark 97 = .ok (.iaload, 1) := by decide +kernel
theorem dX9_mark_98 : decode cX9_mark 98 = .ok (.aload_n 0, 1) := by decide +kernel
theorem dX9_mark_99 : decode cX9_mark 99 = .ok (.getfield 7, 3) := by decide +kernel
theorem dX9_mark_102 : decode cX9_mark 102 = .ok (.iconst 2, 1) := by decide +kernel
theorem dX9_mark_103 : decode cX9_mark 103 = .ok (.iload_n 1, 1) := by decide +kernel
theorem dX9_mark_104 : decode cX9_mark 104 = .ok (.iadd, 1) := by decide +kernel
theorem dX9_mark_105 : decode cX9_mark 105 = .ok (.iaload, 1) := by decide +kernel
theorem dX9_mark_106 : decode cX9_mark 106 = .ok (.isub, 1) := by decide +kernel
theorem dX9_mark_107 : decode cX9_mark 107 = .ok (.ireturn, 1) := by decide +kernel
theorem dX9_mark_108 : decode cX9_mark 108 = .ok (.aload_n 0, 1) := by decide +kernel
theorem dX9_mark_109 : decode cX9_mark 109 = .ok (.iload_n 1, 1) := by decide +kernel
theorem dX9_mark_110 : decode cX9_mark 110 = .ok (.invokevirtual 187, 3) := by decide +kernel
theorem dX9_mark_113 : decode cX9_mark 113 = .ok (.aload_n 0, 1) := by decide +kernel
theorem dX9_mark_114 : decode cX9_mark 114 = .ok (.iload_n 1, 1) := by decide +kernel
theorem dX9_mark_115 : decode cX9_mark 115 = .ok (.invokevirtual 213, 3) := by decide +kernel
theorem dX9_mark_118 : decode cX9_mark 118 = .ok (.iconst (-1), 1) := by decide +kernel
theorem dX9_mark_119 : decode cX9_mark 119 = .ok (.ixor, 1) := by decide +kernel
theorem dX9_mark_120 : decode cX9_mark 120 = .ok (.iand, 1) := by decide +kernel
theorem dX9_mark_121 : decode cX9_mark 121 = .ok (.invokestatic 193, 3) := by decide +kernel
theorem dX9_mark_124 : decode cX9_mark 124 = .ok (.ireturn, 1) := by decide +kernel
theorem dX9_mark_125 : decode cX9_mark 125 = .ok (.aload_n 0, 1) := by decide +kernel
theorem dX9_mark_126 : decode cX9_mark 126 = .ok (.iload_n 1, 1) := by decide +kernel
theorem dX9_mark_127 : decode cX9_mark 127 = .ok (.invokevirtual 216, 3) := by decide +kernel
theorem dX9_mark_130 : decode cX9_mark 130 = .ok (.invokestatic 193, 3) := by decide +kernel
theorem dX9_mark_133 : decode cX9_mark 133 = .ok (.ireturn, 1) := by decide +kernel
def fX9_mark_0  (a0 : Nat) (x1 : Int32) (x2 : Int32) (h : gz_H) : Option (Int32 × gz_H) :=
    gz_ck (gz_sh h a0 9 29) <|
    gz_b2 (fX9_isGoose a0 x1 h) fun y_2 h_1 =>
    if y_2 = 0 then (
     some ((-1 : Int32), h_1)
    ) else (
     gz_b2 (fX9_in x2.toInt64 (1 : Int64) (5 : Int64) h_1) fun y_6 h_5 =>
     if y_6 = 0 then (
      some ((-1 : Int32), h_5)
     ) else (
      gz_ck (gz_sh h_5 a0 9 29) <|
      gz_b2 (fX9_isOf a0 x1 x2 h_5) fun y_9 h_8 =>
      if y_9 = 0 then (
       gz_ck (gz_sh h_8 a0 9 29) <|
       gz_b2 (fX9_find a0 (3 : Int32) h_8) fun y_45 h_44 =>
       some (y_45, h_44)
      ) else (
       gz_ck (gz_sh h_8 a0 9 29) <|
       gz_b2 (fX9_isGone a0 x1 h_8) fun y_13 h_12 =>
       if y_13 = 0 then (
        if x2 = (1 : Int32) then (
         gz_ck (gz_sh h_12 a0 9 29) <|
         gz_b2 (fX9_tellingPlaces a0 x1 h_12) fun y_18 h_17 =>
         some (y_18, h_17)
        ) else (
        if x2 = (2 : Int32) then (
         gz_ck (gz_sh h_12 a0 9 29) <|
         gz_b2 (fX9_toldTwice a0 x1 h_12) fun y_22 h_21 =>
         some (y_22, h_21)
        ) else (
        if x2 = (3 : Int32) then (
         gz_ck (gz_sh h_12 a0 9 29) <|
         gz_br (h_12.2.2.2 a0 5) fun r_26 =>
         gz_ck (gz_inb h_12 r_26 10 x1) <|
         gz_br (h_12.2.2.2 a0 0) fun r_28 =>
         gz_ck (gz_inb h_12 r_28 10 ((2 : Int32) + x1)) <|
         some ((h_12.2.1 r_26 x1.toNatClampNeg) - (h_12.2.1 r_28 ((2 : Int32) + x1).toNatClampNeg), h_12)
        ) else (
        if x2 = (4 : Int32) then (
         gz_ck (gz_sh h_12 a0 9 29) <|
         gz_b2 (fX9_heldBy a0 x1 h_12) fun y_32 h_31 =>
         gz_ck (gz_sh h_31 a0 9 29) <|
         gz_b2 (fX9_toldBy a0 x1 h_31) fun y_35 h_34 =>
         gz_b2 (fX9_bits (y_32 &&& (y_35 ^^^ (-1 : Int32))) h_34) fun y_38 h_37 =>
         some (y_38, h_37)
        ) else (
        gz_ck (gz_sh h_12 a0 9 29) <|
        gz_b2 (fX9_alone a0 x1 h_12) fun y_40 h_39 =>
        gz_b2 (fX9_bits y_40 h_39) fun y_43 h_42 =>
        some (y_43, h_42)
        ))))
       ) else (
        some ((0 : Int32), h_12)
       )
      )
     )
    )
set_option maxRecDepth 100000 in
set_option maxHeartbeats 1000000 in
theorem sX9_mark_0 {G : gz_G} {d l0 s0 : Nat} {Q : Int32 → gz_H → Prop} (a0 : Nat) (x1 : Int32) (x2 : Int32) (h : gz_H) (hf : gz_g (fX9_mark_0  a0 x1 x2 h) Q) : gz_Ok G mX9_mark (d + 4, l0, s0, 0, 0) 0 [.ref a0, .int x1, .int x2] [] h (gz_qi Q) := by
  unfold fX9_mark_0 at hf
  refine gz_aload_n (pc := 0) dX9_mark_0 rfl rfl ?_
  refine gz_iload_n (pc := 1) dX9_mark_1 rfl rfl ?_
  refine gz_gk hf (fun c_3 hf => ?_)
  refine gz_cVI (av := [.int x1]) (st := []) (pc := 2) dX9_mark_2 kl_RX9_196 rfl (gz_shs c_3) rfl rfl (Nat.le_of_ble_eq_true rfl) (by show d + 2 + 1 + 1 ≤ d + 4; omega) (sX9_isGoose (d := d + 2) (gz_gc hf)) (fun y_2 h_1 hf => ?_)
  refine gz_if_eq (tgt := 20) (pc := 5) dX9_mark_5 rfl (fun c_4 => ?_) (fun c_4 => ?_)
  · have hf := gz_gT hf c_4
    refine gz_iconst (v := (-1 : Int32)) (pc := 20) dX9_mark_20 rfl ?_
    exact gz_irt (pc := 21) dX9_mark_21 rfl rfl hf
  · have hf := gz_gF hf c_4
    refine gz_iload_n (pc := 8) dX9_mark_8 rfl rfl ?_
    refine gz_i2l (pc := 9) dX9_mark_9 ?_
    refine gz_lconst (v := (1 : Int64)) (pc := 10) dX9_mark_10 rfl ?_
    refine gz_ldc2 (v := (5 : Int64)) (pc := 11) dX9_mark_11 kc_RX9_72 ?_
    refine gz_cSI (av := [.long x2.toInt64, .long (1 : Int64), .long (5 : Int64)]) (st := []) (pc := 14) dX9_mark_14 kl_RX9_74 rfl rfl (Nat.le_of_ble_eq_true rfl) (by show d + 3 + 0 + 1 ≤ d + 4; omega) (sX9_in (d := d + 3) (gz_gc hf)) (fun y_6 h_5 hf => ?_)
    refine gz_if_ne (tgt := 22) (pc := 17) dX9_mark_17 rfl (fun c_7 => ?_) (fun c_7 => ?_)
    · have hf := gz_gF hf c_7
      refine gz_aload_n (pc := 22) dX9_mark_22 rfl rfl ?_
      refine gz_iload_n (pc := 23) dX9_mark_23 rfl rfl ?_
      refine gz_iload_n (pc := 24) dX9_mark_24 rfl rfl ?_
      refine gz_gk hf (fun c_10 hf => ?_)
      refine gz_cVI (av := [.int x1, .int x2]) (st := []) (pc := 25) dX9_mark_25 kl_RX9_204 rfl (gz_shs c_10) rfl rfl (Nat.le_of_ble_eq_true rfl) (by show d + 3 + 0 + 1 ≤ d + 4; omega) (sX9_isOf (d := d + 3) (gz_gc hf)) (fun y_9 h_8 hf => ?_)
      refine gz_if_ne (tgt := 37) (pc := 28) dX9_mark_28 rfl (fun c_11 => ?_) (fun c_11 => ?_)
      · have hf := gz_gF hf c_11
        refine gz_aload_n (pc := 37) dX9_mark_37 rfl rfl ?_
        refine gz_iload_n (pc := 38) dX9_mark_38 rfl rfl ?_
        refine gz_gk hf (fun c_14 hf => ?_)
        refine gz_cVI (av := [.int x1]) (st := []) (pc := 39) dX9_mark_39 kl_RX9_177 rfl (gz_shs c_14) rfl rfl (Nat.le_of_ble_eq_true rfl) (by show d + 2 + 1 + 1 ≤ d + 4; omega) (sX9_isGone (d := d + 2) (gz_gc hf)) (fun y_13 h_12 hf => ?_)
        refine gz_if_eq (tgt := 47) (pc := 42) dX9_mark_42 rfl (fun c_15 => ?_) (fun c_15 => ?_)
        · have hf := gz_gT hf c_15
          refine gz_iload_n (pc := 47) dX9_mark_47 rfl rfl ?_
          by_cases c_16 : x2 = (1 : Int32)
          · have hf := gz_gT hf c_16
            refine gz_tIn (off := 32) (tgt := 80) (pc := 48) dX9_mark_48 (by rw [c_16]; decide) (by rw [c_16]; decide) (by rw [c_16]; decide) rfl ?_
            refine gz_aload_n (pc := 80) dX9_mark_80 rfl rfl ?_
            refine gz_iload_n (pc := 81) dX9_mark_81 rfl rfl ?_
            refine gz_gk hf (fun c_19 hf => ?_)
            refine gz_cVI (av := [.int x1]) (st := []) (pc := 82) dX9_mark_82 kl_RX9_207 rfl (gz_shs c_19) rfl rfl (Nat.le_of_ble_eq_true rfl) (by show d + 0 + 3 + 1 ≤ d + 4; omega) (sX9_tellingPlaces (d := d + 0) (gz_gc hf)) (fun y_18 h_17 hf => ?_)
            exact gz_irt (pc := 85) dX9_mark_85 rfl rfl hf
          have hf := gz_gF hf c_16
          by_cases c_20 : x2 = (2 : Int32)
          · have hf := gz_gT hf c_20
            refine gz_tIn (off := 38) (tgt := 86) (pc := 48) dX9_mark_48 (by rw [c_20]; decide) (by rw [c_20]; decide) (by rw [c_20]; decide) rfl ?_
            refine gz_aload_n (pc := 86) dX9_mark_86 rfl rfl ?_
            refine gz_iload_n (pc := 87) dX9_mark_87 rfl rfl ?_
            refine gz_gk hf (fun c_23 hf => ?_)
            refine gz_cVI (av := [.int x1]) (st := []) (pc := 88) dX9_mark_88 kl_RX9_210 rfl (gz_shs c_23) rfl rfl (Nat.le_of_ble_eq_true rfl) (by show d + 0 + 3 + 1 ≤ d + 4; omega) (sX9_toldTwice (d := d + 0) (gz_gc hf)) (fun y_22 h_21 hf => ?_)
            exact gz_irt (pc := 91) dX9_mark_91 rfl rfl hf
          have hf := gz_gF hf c_20
          by_cases c_24 : x2 = (3 : Int32)
          · have hf := gz_gT hf c_24
            refine gz_tIn (off := 44) (tgt := 92) (pc := 48) dX9_mark_48 (by rw [c_24]; decide) (by rw [c_24]; decide) (by rw [c_24]; decide) rfl ?_
            refine gz_aload_n (pc := 92) dX9_mark_92 rfl rfl ?_
            refine gz_gk hf (fun c_25 hf => ?_)
            refine gz_gb hf (fun r_26 er_26 hf => ?_)
            refine gz_getR (pc := 93) dX9_mark_93 fl_RX9_19 rfl (gz_shs c_25) er_26 ?_
            refine gz_iload_n (pc := 96) dX9_mark_96 rfl rfl ?_
            refine gz_gk hf (fun c_27 hf => ?_)
            refine gz_iald (pc := 97) dX9_mark_97 c_27 ?_
            refine gz_aload_n (pc := 98) dX9_mark_98 rfl rfl ?_
            refine gz_gb hf (fun r_28 er_28 hf => ?_)
            refine gz_getR (pc := 99) dX9_mark_99 fl_RX9_7 rfl (gz_shs c_25) er_28 ?_
            refine gz_iconst (v := (2 : Int32)) (pc := 102) dX9_mark_102 rfl ?_
            refine gz_iload_n (pc := 103) dX9_mark_103 rfl rfl ?_
            refine gz_iadd (pc := 104) dX9_mark_104 ?_
            refine gz_gk hf (fun c_29 hf => ?_)
            refine gz_iald (pc := 105) dX9_mark_105 c_29 ?_
            refine gz_isub (pc := 106) dX9_mark_106 ?_
            exact gz_irt (pc := 107) dX9_mark_107 rfl rfl hf
          have hf := gz_gF hf c_24
          by_cases c_30 : x2 = (4 : Int32)
          · have hf := gz_gT hf c_30
            refine gz_tIn (off := 60) (tgt := 108) (pc := 48) dX9_mark_48 (by rw [c_30]; decide) (by rw [c_30]; decide) (by rw [c_30]; decide) rfl ?_
            refine gz_aload_n (pc := 108) dX9_mark_108 rfl rfl ?_
            refine gz_iload_n (pc := 109) dX9_mark_109 rfl rfl ?_
            refine gz_gk hf (fun c_33 hf => ?_)
            refine gz_cVI (av := [.int x1]) (st := []) (pc := 110) dX9_mark_110 kl_RX9_187 rfl (gz_shs c_33) rfl rfl (Nat.le_of_ble_eq_true rfl) (by show d + 2 + 1 + 1 ≤ d + 4; omega) (sX9_heldBy (d := d + 2) (gz_gc hf)) (fun y_32 h_31 hf => ?_)
            refine gz_aload_n (pc := 113) dX9_mark_113 rfl rfl ?_
            refine gz_iload_n (pc := 114) dX9_mark_114 rfl rfl ?_
            refine gz_gk hf (fun c_36 hf => ?_)
            refine gz_cVI (av := [.int x1]) (st := [.int y_32]) (pc := 115) dX9_mark_115 kl_RX9_213 rfl (gz_shs c_36) rfl rfl (Nat.le_of_ble_eq_true rfl) (by show d + 0 + 3 + 1 ≤ d + 4; omega) (sX9_toldBy (d := d + 0) (gz_gc hf)) (fun y_35 h_34 hf => ?_)
            refine gz_iconst (v := (-1 : Int32)) (pc := 118) dX9_mark_118 rfl ?_
            refine gz_ixor (pc := 119) dX9_mark_119 ?_
            refine gz_iand (pc := 120) dX9_mark_120 ?_
            refine gz_cSI (av := [.int (y_32 &&& (y_35 ^^^ (-1 : Int32)))]) (st := []) (pc := 121) dX9_mark_121 kl_RX9_193 rfl rfl (Nat.le_of_ble_eq_true rfl) (by show d + 3 + 0 + 1 ≤ d + 4; omega) (sX9_bits (d := d + 3) (gz_gc hf)) (fun y_38 h_37 hf => ?_)
            exact gz_irt (pc := 124) dX9_mark_124 rfl rfl hf
          have hf := gz_gF hf c_30
          refine gz_tOut (tgt := 125) (pc := 48) dX9_mark_48 (gz_tout 4 (fun k hk => match k, hk with | 0, _ => c_16 | 1, _ => c_20 | 2, _ => c_24 | 3, _ => c_30 | k + 4, hk => absurd hk (by omega))) rfl ?_
          refine gz_aload_n (pc := 125) dX9_mark_125 rfl rfl ?_
          refine gz_iload_n (pc := 126) dX9_mark_126 rfl rfl ?_
          refine gz_gk hf (fun c_41 hf => ?_)
          refine gz_cVI (av := [.int x1]) (st := []) (pc := 127) dX9_mark_127 kl_RX9_216 rfl (gz_shs c_41) rfl rfl (Nat.le_of_ble_eq_true rfl) (by show d + 1 + 2 + 1 ≤ d + 4; omega) (sX9_alone (d := d + 1) (gz_gc hf)) (fun y_40 h_39 hf => ?_)
          refine gz_cSI (av := [.int y_40]) (st := []) (pc := 130) dX9_mark_130 kl_RX9_193 rfl rfl (Nat.le_of_ble_eq_true rfl) (by show d + 3 + 0 + 1 ≤ d + 4; omega) (sX9_bits (d := d + 3) (gz_gc hf)) (fun y_43 h_42 hf => ?_)
          exact gz_irt (pc := 133) dX9_mark_133 rfl rfl hf
        · have hf := gz_gF hf c_15
          refine gz_iconst (v := (0 : Int32)) (pc := 45) dX9_mark_45 rfl ?_
          exact gz_irt (pc := 46) dX9_mark_46 rfl rfl hf
      · have hf := gz_gT hf c_11
        refine gz_aload_n (pc := 31) dX9_mark_31 rfl rfl ?_
        refine gz_iconst (v := (3 : Int32)) (pc := 32) dX9_mark_32 rfl ?_
        refine gz_gk hf (fun c_46 hf => ?_)
        refine gz_cVI (av := [.int (3 : Int32)]) (st := []) (pc := 33) dX9_mark_33 kl_RX9_84 rfl (gz_shs c_46) rfl rfl (Nat.le_of_ble_eq_true rfl) (by show d + 3 + 0 + 1 ≤ d + 4; omega) (sX9_find (d := d + 3) (gz_gc hf)) (fun y_45 h_44 hf => ?_)
        exact gz_irt (pc := 36) dX9_mark_36 rfl rfl hf
    · have hf := gz_gT hf c_7
      refine gz_iconst (v := (-1 : Int32)) (pc := 20) dX9_mark_20 rfl ?_
      exact gz_irt (pc := 21) dX9_mark_21 rfl rfl hf
def fX9_mark (a0 : Nat) (x1 : Int32) (x2 : Int32) (h : gz_H) : Option (Int32 × gz_H) := fX9_mark_0 a0 x1 x2 h
theorem sX9_mark {G : gz_G} {d : Nat} {a0 : Nat} {x1 : Int32} {x2 : Int32} {h : gz_H} {Q : Int32 → gz_H → Prop} (hf : gz_g (fX9_mark a0 x1 x2 h) Q) : gz_Cl G mX9_mark (d + 4) 0 0 [.ref a0, .int x1, .int x2] h (gz_qi Q) := gz_cl_of (lo := [.ref a0, .int x1, .int x2]) (by decide) rfl rfl (Nat.le_of_ble_eq_true rfl) (sX9_mark_0 a0 x1 x2 h hf)
theorem dX9_place_0 : decode cX9_place 0 = .ok (.aload_n 0, 1) := by decide +kernel
theorem dX9_place_1 : decode cX9_place 1 = .ok (.iload_n 1, 1) := by decide +kernel
theorem dX9_place_2 : decode cX9_place 2 = .ok (.invokevirtual 219, 3) := by decide +kernel
theorem dX9_place_5 : decode cX9_place 5 = .ok (.ifCond .eq 12, 3) := by decide +kernel
theorem dX9_place_8 : decode cX9_place 8 = .ok (.aload_n 0, 1) := by decide +kernel
theorem dX9_place_9 : decode cX9_place 9 = .ok (.getfield 13, 3) := by decide +kernel
theorem dX9_place_12 : decode cX9_place 12 = .ok (.iload_n 1, 1) := by decide +kernel
theorem dX9_place_13 : decode cX9_place 13 = .ok (.iaload, 1) := by decide +kernel
theorem dX9_place_14 : decode cX9_place 14 = .ok (.goto 4, 3) := by decide +kernel
theorem dX9_place_17 : decode cX9_place 17 = .ok (.iconst (-1), 1) := by decide +kernel
theorem dX9_place_18 : decode cX9_place 18 = .ok (.ireturn, 1) := by decide +kernel
def fX9_place_0  (a0 : Nat) (x1 : Int32) (h : gz_H) : Option (Int32 × gz_H) :=
    gz_ck (gz_sh h a0 9 29) <|
    gz_b2 (fX9_isFact a0 x1 h) fun y_2 h_1 =>
    if y_2 = 0 then (
     some ((-1 : Int32), h_1)
    ) else (
     gz_ck (gz_sh h_1 a0 9 29) <|
     gz_br (h_1.2.2.2 a0 2) fun r_6 =>
     gz_ck (gz_inb h_1 r_6 10 x1) <|
     some (h_1.2.1 r_6 x1.toNatClampNeg, h_1)
    )
set_option maxRecDepth 100000 in
set_option maxHeartbeats 1000000 in
theorem sX9_place_0 {G : gz_G} {d l0 s0 : Nat} {Q : Int32 → gz_H → Prop} (a0 : Nat) (x1 : Int32) (h : gz_H) (hf : gz_g (fX9_place_0  a0 x1 h) Q) : gz_Ok G mX9_place (d + 2, l0, s0, 0, 0) 0 [.ref a0, .int x1] [] h (gz_qi Q) := by
  unfold fX9_place_0 at hf
  refine gz_aload_n (pc := 0) dX9_place_0 rfl rfl ?_
  refine gz_iload_n (pc := 1) dX9_place_1 rfl rfl ?_
  refine gz_gk hf (fun c_3 hf => ?_)
  refine gz_cVI (av := [.int x1]) (st := []) (pc := 2) dX9_place_2 kl_RX9_219 rfl (gz_shs c_3) rfl rfl (Nat.le_of_ble_eq_true rfl) (by show d + 0 + 1 + 1 ≤ d + 2; omega) (sX9_isFact (d := d + 0) (gz_gc hf)) (fun y_2 h_1 hf => ?_)
  refine gz_if_eq (tgt := 17) (pc := 5) dX9_place_5 rfl (fun c_4 => ?_) (fun c_4 => ?_)
  · have hf := gz_gT hf c_4
    refine gz_iconst (v := (-1 : Int32)) (pc := 17) dX9_place_17 rfl ?_
    exact gz_irt (pc := 18) dX9_place_18 rfl rfl hf
  · have hf := gz_gF hf c_4
    refine gz_aload_n (pc := 8) dX9_place_8 rfl rfl ?_
    refine gz_gk hf (fun c_5 hf => ?_)
    refine gz_gb hf (fun r_6 er_6 hf => ?_)
    refine gz_getR (pc := 9) dX9_place_9 fl_RX9_13 rfl (gz_shs c_5) er_6 ?_
    refine gz_iload_n (pc := 12) dX9_place_12 rfl rfl ?_
    refine gz_gk hf (fun c_7 hf => ?_)
    refine gz_iald (pc := 13) dX9_place_13 c_7 ?_
    refine gz_goto (tgt := 18) (pc := 14) dX9_place_14 rfl ?_
    exact gz_irt (pc := 18) dX9_place_18 rfl rfl hf
def fX9_place (a0 : Nat) (x1 : Int32) (h : gz_H) : Option (Int32 × gz_H) := fX9_place_0 a0 x1 h
theorem sX9_place {G : gz_G} {d : Nat} {a0 : Nat} {x1 : Int32} {h : gz_H} {Q : Int32 → gz_H → Prop} (hf : gz_g (fX9_place a0 x1 h) Q) : gz_Cl G mX9_place (d + 2) 0 0 [.ref a0, .int x1] h (gz_qi Q) := gz_cl_of (lo := [.ref a0, .int x1]) (by decide) rfl rfl (Nat.le_of_ble_eq_true rfl) (sX9_place_0 a0 x1 h hf)
theorem dX9_keepPast_0 : decode cX9_keepPast 0 = .ok (.iconst 0, 1) := by decide +kernel
theorem dX9_keepPast_1 : decode cX9_keepPast 1 = .ok (.istore_n 1, 1) := by decide +kernel
theorem dX9_keepPast_2 : decode cX9_keepPast 2 = .ok (.iload_n 1, 1) := by decide +kernel
theorem dX9_keepPast_3 : decode cX9_keepPast 3 = .ok (.bipush 55, 2) := by decide +kernel
theorem dX9_keepPast_5 : decode cX9_keepPast 5 = .ok (.if_icmp .ge 36, 3) := by decide +kernel
theorem dX9_keepPast_8 : decode cX9_keepPast 8 = .ok (.aload_n 0, 1) := by decide +kernel
theorem dX9_keepPast_9 : decode cX9_keepPast 9 = .ok (.getfield 7, 3) := by decide +kernel
theorem dX9_keepPast_12 : decode cX9_keepPast 12 = .ok (.bipush 56, 2) := by decide +kernel
theorem dX9_keepPast_14 : decode cX9_keepPast 14 = .ok (.bipush 55, 2) := by decide +kernel
theorem dX9_keepPast_16 : decode cX9_keepPast 16 = .ok (.aload_n 0, 1) := by decide +kernel
theorem dX9_keepPast_17 : decode cX9_keepPast 17 = .ok (.getfield 7, 3) := by decide +kernel
theorem dX9_keepPast_20 : decode cX9_keepPast 20 = .ok (.iconst 0, 1) := by decide +kernel
theorem dX9_keepPast_21 : decode cX9_keepPast 21 = .ok (.iaload, 1) := by decide +kernel
theorem dX9_keepPast_22 : decode cX9_keepPast 22 = .ok (.imul, 1) := by decide +kernel
theorem dX9_keepPast_23 : decode cX9_keepPast 23 = .ok (.iadd, 1) := by decide +kernel
theorem dX9_keepPast_24 : decode cX9_keepPast 24 = .ok (.iload_n 1, 1) := by decide +kernel
theorem dX9_keepPast_25 : decode cX9_keepPast 25 = .ok (.iadd, 1) := by decide +kernel
theorem dX9_keepPast_26 : decode cX9_keepPast 26 = .ok (.aload_n 0, 1) := by decide +kernel
theorem dX9_keepPast_27 : decode cX9_keepPast 27 = .ok (.getfield 7, 3) := by decide +kernel
theorem dX9_keepPast_30 : decode cX9_keepPast 30 = .ok (.iconst 1, 1) := by decide +kernel
theorem dX9_keepPast_31 : decode cX9_keepPast 31 = .ok (.iload_n 1, 1) := by decide +kernel
theorem dX9_keepPast_32 : decode cX9_keepPast 32 = .ok (.iadd, 1) := by decide +kernel
theorem dX9_keepPast_33 : decode cX9_keepPast 33 = .ok (.iaload, 1) := by decide +kernel
theorem dX9_keepPast_34 : decode cX9_keepPast 34 = .ok (.iastore, 1) := by decide +kernel
theorem dX9_keepPast_35 : decode cX9_keepPast 35 = .ok (.iinc 1 1, 3) := by decide +kernel
theorem dX9_keepPast_38 : decode cX9_keepPast 38 = .ok (.goto (-36), 3) := by decide +kernel
theorem dX9_keepPast_41 : decode cX9_keepPast 41 = .ok (.aload_n 0, 1) := by decide +kernel
theorem dX9_keepPast_42 : decode cX9_keepPast 42 = .ok (.getfield 7, 3) := by decide +kernel
theorem dX9_keepPast_45 : decode cX9_keepPast 45 = .ok (.iconst 0, 1) := by decide +kernel
theorem dX9_keepPast_46 : decode cX9_keepPast 46 = .ok (.dup2, 1) := by decide +kernel
theorem dX9_keepPast_47 : decode cX9_keepPast 47 = .ok (.iaload, 1) := by decide +kernel
theorem dX9_keepPast_48 : decode cX9_keepPast 48 = .ok (.iconst 1, 1) := by decide +kernel
theorem dX9_keepPast_49 : decode cX9_keepPast 49 = .ok (.iadd, 1) := by decide +kernel
theorem dX9_keepPast_50 : decode cX9_keepPast 50 = .ok (.iastore, 1) := by decide +kernel
theorem dX9_keepPast_51 : decode cX9_keepPast 51 = .ok (.return_, 1) := by decide +kernel
def fX9_keepPast_2  : Nat → Nat → Int32 → gz_H → Option (Unit × gz_H)
  | 0, _, _, _ => none
  | n + 1, a0, x1, h =>
    if (55 : Int32) ≤ x1 then (
     gz_ck (gz_sh h a0 9 29) <|
     gz_br (h.2.2.2 a0 0) fun r_3 =>
     gz_ck (gz_inb h r_3 10 (0 : Int32)) <|
     gz_lt (uI h r_3 (0 : Int32).toNatClampNeg ((h.2.1 r_3 (0 : Int32).toNatClampNeg) + (1 : Int32))) fun h_5 =>
     some ((), h_5)
    ) else (
     gz_ck (gz_sh h a0 9 29) <|
     gz_br (h.2.2.2 a0 0) fun r_7 =>
     gz_ck (gz_inb h r_7 10 (0 : Int32)) <|
     gz_ck (gz_inb h r_7 10 ((1 : Int32) + x1)) <|
     gz_ck (gz_inb h r_7 10 (((56 : Int32) + ((55 : Int32) * (h.2.1 r_7 (0 : Int32).toNatClampNeg))) + x1)) <|
     gz_lt (uI h r_7 (((56 : Int32) + ((55 : Int32) * (h.2.1 r_7 (0 : Int32).toNatClampNeg))) + x1).toNatClampNeg (h.2.1 r_7 ((1 : Int32) + x1).toNatClampNeg)) fun h_11 =>
     fX9_keepPast_2 n a0 (x1 + 1) h_11
    )
set_option maxRecDepth 100000 in
set_option maxHeartbeats 1000000 in
theorem sX9_keepPast_2 {G : gz_G} {d l0 s0 : Nat} {Q : Unit → gz_H → Prop} : ∀ (n : Nat) (a0 : Nat) (x1 : Int32) (h : gz_H), gz_g (fX9_keepPast_2  n a0 x1 h) Q → gz_Ok G mX9_keepPast (d + 0, l0, s0, 0, 0) 2 [.ref a0, .int x1] [] h (gz_qu Q) := by
  intro n
  induction n with
  | zero => intro a0 x1 h hf; exact False.elim hf
  | succ n ih =>
    intro a0 x1 h hf
    rw [fX9_keepPast_2] at hf
    refine gz_iload_n (pc := 2) dX9_keepPast_2 rfl rfl ?_
    refine gz_bipush (v := (55 : Int32)) (pc := 3) dX9_keepPast_3 rfl ?_
    refine gz_icmp_ge (tgt := 41) (pc := 5) dX9_keepPast_5 rfl (fun c_1 => ?_) (fun c_1 => ?_)
    · have hf := gz_gT hf c_1
      refine gz_aload_n (pc := 41) dX9_keepPast_41 rfl rfl ?_
      refine gz_gk hf (fun c_2 hf => ?_)
      refine gz_gb hf (fun r_3 er_3 hf => ?_)
      refine gz_getR (pc := 42) dX9_keepPast_42 fl_RX9_7 rfl (gz_shs c_2) er_3 ?_
      refine gz_iconst (v := (0 : Int32)) (pc := 45) dX9_keepPast_45 rfl ?_
      refine gz_dup2 (pc := 46) dX9_keepPast_46 rfl rfl ?_
      refine gz_gk hf (fun c_4 hf => ?_)
      refine gz_iald (pc := 47) dX9_keepPast_47 c_4 ?_
      refine gz_iconst (v := (1 : Int32)) (pc := 48) dX9_keepPast_48 rfl ?_
      refine gz_iadd (pc := 49) dX9_keepPast_49 ?_
      refine gz_iast (pc := 50) dX9_keepPast_50 c_4 ?_
      refine gz_nmH (fun h_5 eh_5 => ?_)
      have hf := gz_gl eh_5 hf
      exact gz_uret (pc := 51) dX9_keepPast_51 rfl hf
    · have hf := gz_gF hf c_1
      refine gz_aload_n (pc := 8) dX9_keepPast_8 rfl rfl ?_
      refine gz_gk hf (fun c_6 hf => ?_)
      refine gz_gb hf (fun r_7 er_7 hf => ?_)
      refine gz_getR (pc := 9) dX9_keepPast_9 fl_RX9_7 rfl (gz_shs c_6) er_7 ?_
      refine gz_bipush (v := (56 : Int32)) (pc := 12) dX9_keepPast_12 rfl ?_
      refine gz_bipush (v := (55 : Int32)) (pc := 14) dX9_keepPast_14 rfl ?_
      refine gz_aload_n (pc := 16) dX9_keepPast_16 rfl rfl ?_
      refine gz_getR (pc := 17) dX9_keepPast_17 fl_RX9_7 rfl (gz_shs c_6) er_7 ?_
      refine gz_iconst (v := (0 : Int32)) (pc := 20) dX9_keepPast_20 rfl ?_
      refine gz_gk hf (fun c_8 hf => ?_)
      refine gz_iald (pc := 21) dX9_keepPast_21 c_8 ?_
      refine gz_imul (pc := 22) dX9_keepPast_22 ?_
      refine gz_iadd (pc := 23) dX9_keepPast_23 ?_
      refine gz_iload_n (pc := 24) dX9_keepPast_24 rfl rfl ?_
      refine gz_iadd (pc := 25) dX9_keepPast_25 ?_
      refine gz_aload_n (pc := 26) dX9_keepPast_26 rfl rfl ?_
      refine gz_getR (pc := 27) dX9_keepPast_27 fl_RX9_7 rfl (gz_shs c_6) er_7 ?_
      refine gz_iconst (v := (1 : Int32)) (pc := 30) dX9_keepPast_30 rfl ?_
      refine gz_iload_n (pc := 31) dX9_keepPast_31 rfl rfl ?_
      refine gz_iadd (pc := 32) dX9_keepPast_32 ?_
      refine gz_gk hf (fun c_9 hf => ?_)
      refine gz_iald (pc := 33) dX9_keepPast_33 c_9 ?_
      refine gz_gk hf (fun c_10 hf => ?_)
      refine gz_iast (pc := 34) dX9_keepPast_34 c_10 ?_
      refine gz_nmH (fun h_11 eh_11 => ?_)
      have hf := gz_gl eh_11 hf
      refine gz_iinc (v := x1 + 1) (lv := [.ref a0, .int (x1 + 1)]) (pc := 35) dX9_keepPast_35 rfl rfl (by decide) rfl ?_
      refine gz_goto (tgt := 2) (pc := 38) dX9_keepPast_38 rfl ?_
      exact ih a0 (x1 + 1) h_11 hf
def fX9_keepPast_0  (a0 : Nat) (h : gz_H) : Option (Unit × gz_H) :=
    fX9_keepPast_2 gz_fu a0 (0 : Int32) h
set_option maxRecDepth 100000 in
set_option maxHeartbeats 1000000 in
theorem sX9_keepPast_0 {G : gz_G} {d l0 s0 : Nat} {Q : Unit → gz_H → Prop} (a0 : Nat) (h : gz_H) (hf : gz_g (fX9_keepPast_0  a0 h) Q) : gz_Ok G mX9_keepPast (d + 0, l0, s0, 0, 0) 0 [.ref a0, .retAddr 0] [] h (gz_qu Q) := by
  unfold fX9_keepPast_0 at hf
  refine gz_iconst (v := (0 : Int32)) (pc := 0) dX9_keepPast_0 rfl ?_
  refine gz_istore_n (lv := [.ref a0, .int (0 : Int32)]) (pc := 1) dX9_keepPast_1 rfl (by decide) rfl ?_
  exact sX9_keepPast_2 gz_fu a0 (0 : Int32) h hf
def fX9_keepPast (a0 : Nat) (h : gz_H) : Option (Unit × gz_H) := fX9_keepPast_0 a0 h
theorem sX9_keepPast {G : gz_G} {d : Nat} {a0 : Nat} {h : gz_H} {Q : Unit → gz_H → Prop} (hf : gz_g (fX9_keepPast a0 h) Q) : gz_Cl G mX9_keepPast (d + 0) 0 0 [.ref a0] h (gz_qu Q) := gz_cl_of (lo := [.ref a0, .retAddr 0]) (by decide) rfl rfl (Nat.le_of_ble_eq_true rfl) (sX9_keepPast_0 a0 h hf)
theorem dX9_drop_0 : decode cX9_drop 0 = .ok (.aload_n 0, 1) := by decide +kernel
theorem dX9_drop_1 : decode cX9_drop 1 = .ok (.getfield 7, 3) := by decide +kernel
theorem dX9_drop_4 : decode cX9_drop 4 = .ok (.iconst 2, 1) := by decide +kernel
theorem dX9_drop_5 : decode cX9_drop 5 = .ok (.iload_n 1, 1) := by decide +kernel
theorem dX9_drop_6 : decode cX9_drop 6 = .ok (.iadd, 1) := by decide +kernel
theorem dX9_drop_7 : decode cX9_drop 7 = .ok (.dup2, 1) := by decide +kernel
theorem dX9_drop_8 : decode cX9_drop 8 = .ok (.iaload, 1) := by decide +kernel
theorem dX9_drop_9 : decode cX9_drop 9 = .ok (.iconst 1, 1) := by decide +kernel
theorem dX9_drop_10 : decode cX9_drop 10 = .ok (.isub, 1) := by decide +kernel
theorem dX9_drop_11 : decode cX9_drop 11 = .ok (.iastore, 1) := by decide +kernel
theorem dX9_drop_12 : decode cX9_drop 12 = .ok (.iload_n 2, 1) := by decide +kernel
theorem dX9_drop_13 : decode cX9_drop 13 = .ok (.istore_n 3, 1) := by decide +kernel
theorem dX9_drop_14 : decode cX9_drop 14 = .ok (.iload_n 3, 1) := by decide +kernel
theorem dX9_drop_15 : decode cX9_drop 15 = .ok (.aload_n 0, 1) := by decide +kernel
theorem dX9_drop_16 : decode cX9_drop 16 = .ok (.getfield 7, 3) := by decide +kernel
theorem dX9_drop_19 : decode cX9_drop 19 = .ok (.iconst 2, 1) := by decide +kernel
theorem dX9_drop_20 : decode cX9_drop 20 = .ok (.iload_n 1, 1) := by decide +kernel
theorem dX9_drop_21 : decode cX9_drop 21 = .ok (.iadd, 1) := by decide +kernel
theorem dX9_drop_22 : decode cX9_drop 22 = .ok (.iaload, 1) := by decide +kernel
theorem dX9_drop_23 : decode cX9_drop 23 = .ok (.if_icmp .ge 31, 3) := by decide +kernel
theorem dX9_drop_26 : decode cX9_drop 26 = .ok (.aload_n 0, 1) := by decide +kernel
theorem dX9_drop_27 : decode cX9_drop 27 = .ok (.getfield 7, 3) := by decide +kernel
theorem dX9_drop_30 : decode cX9_drop 30 = .ok (.bipush 8, 2) := by decide +kernel
theorem dX9_drop_32 : decode cX9_drop 32 = .ok (.bipush 8, 2) := by decide +kernel
theorem dX9_drop_34 : decode cX9_drop 34 = .ok (.iload_n 1, 1) := by decide +kernel
theorem dX9_drop_35 : decode cX9_drop 35 = .ok (.imul, 1) := by decide +kernel
theorem dX9_drop_36 : decode cX9_drop 36 = .ok (.iadd, 1) := by decide +kernel
theorem dX9_drop_37 : decode cX9_drop 37 = .ok (.iload_n 3, 1) := by decide +kernel
theorem dX9_drop_38 : decode cX9_drop 38 = .ok (.iadd, 1) := by decide +kernel
theorem dX9_drop_39 : decode cX9_drop 39 = .ok (.aload_n 0, 1) := by decide +kernel
theorem dX9_drop_40 : decode cX9_drop 40 = .ok (.iload_n 1, 1) := by decide +kernel
theorem dX9_drop_41 : decode cX9_drop 41 = .ok (.iload_n 3, 1) := by decide +kernel
theorem dX9_drop_42 : decode cX9_drop 42 = .ok (.iconst 1, 1) := by decide +kernel
theorem dX9_drop_43 : decode cX9_drop 43 = .ok (.iadd, 1) := by decide +kernel
theorem dX9_drop_44 : decode cX9_drop 44 = .ok (.invokevirtual 161, 3) := by decide +kernel
theorem dX9_drop_47 : decode cX9_drop 47 = .ok (.iastore, 1) := by decide +kernel
theorem dX9_drop_48 : decode cX9_drop 48 = .ok (.iinc 3 1, 3) := by decide +kernel
theorem dX9_drop_51 : decode cX9_drop 51 = .ok (.goto (-37), 3) := by decide +kernel
theorem dX9_drop_54 : decode cX9_drop 54 = .ok (.return_, 1) := by decide +kernel
def fX9_drop_14  : Nat → Nat → Int32 → Int32 → gz_H → Option (Unit × gz_H)
  | 0, _, _, _, _ => none
  | n + 1, a0, x1, x3, h =>
    gz_ck (gz_sh h a0 9 29) <|
    gz_br (h.2.2.2 a0 0) fun r_2 =>
    gz_ck (gz_inb h r_2 10 ((2 : Int32) + x1)) <|
    if (h.2.1 r_2 ((2 : Int32) + x1).toNatClampNeg) ≤ x3 then (
     some ((), h)
    ) else (
     gz_b2 (fX9_factOf a0 x1 (x3 + (1 : Int32)) h) fun y_6 h_5 =>
     gz_ck (gz_inb h_5 r_2 10 (((8 : Int32) + ((8 : Int32) * x1)) + x3)) <|
     gz_lt (uI h_5 r_2 (((8 : Int32) + ((8 : Int32) * x1)) + x3).toNatClampNeg y_6) fun h_8 =>
     fX9_drop_14 n a0 x1 (x3 + 1) h_8
    )
set_option maxRecDepth 100000 in
set_option maxHeartbeats 1000000 in
theorem sX9_drop_14 {G : gz_G} {d l0 s0 : Nat} {Q : Unit → gz_H → Prop} : ∀ (n : Nat) (a0 : Nat) (x1 : Int32) (x3 : Int32) (h : gz_H), gz_g (fX9_drop_14  n a0 x1 x3 h) Q → gz_Ok G mX9_drop (d + 1, l0, s0, 0, 0) 14 [.ref a0, .int x1, .retAddr 0, .int x3] [] h (gz_qu Q) := by
  intro n
  induction n with
  | zero => intro a0 x1 x3 h hf; exact False.elim hf
  | succ n ih =>
    intro a0 x1 x3 h hf
    rw [fX9_drop_14] at hf
    refine gz_iload_n (pc := 14) dX9_drop_14 rfl rfl ?_
    refine gz_aload_n (pc := 15) dX9_drop_15 rfl rfl ?_
    refine gz_gk hf (fun c_1 hf => ?_)
    refine gz_gb hf (fun r_2 er_2 hf => ?_)
    refine gz_getR (pc := 16) dX9_drop_16 fl_RX9_7 rfl (gz_shs c_1) er_2 ?_
    refine gz_iconst (v := (2 : Int32)) (pc := 19) dX9_drop_19 rfl ?_
    refine gz_iload_n (pc := 20) dX9_drop_20 rfl rfl ?_
    refine gz_iadd (pc := 21) dX9_drop_21 ?_
    refine gz_gk hf (fun c_3 hf => ?_)
    refine gz_iald (pc := 22) dX9_drop_22 c_3 ?_
    refine gz_icmp_ge (tgt := 54) (pc := 23) dX9_drop_23 rfl (fun c_4 => ?_) (fun c_4 => ?_)
    · have hf := gz_gT hf c_4
      exact gz_uret (pc := 54) dX9_drop_54 rfl hf
    · have hf := gz_gF hf c_4
      refine gz_aload_n (pc := 26) dX9_drop_26 rfl rfl ?_
      refine gz_getR (pc := 27) dX9_drop_27 fl_RX9_7 rfl (gz_shs c_1) er_2 ?_
      refine gz_bipush (v := (8 : Int32)) (pc := 30) dX9_drop_30 rfl ?_
      refine gz_bipush (v := (8 : Int32)) (pc := 32) dX9_drop_32 rfl ?_
      refine gz_iload_n (pc := 34) dX9_drop_34 rfl rfl ?_
      refine gz_imul (pc := 35) dX9_drop_35 ?_
      refine gz_iadd (pc := 36) dX9_drop_36 ?_
      refine gz_iload_n (pc := 37) dX9_drop_37 rfl rfl ?_
      refine gz_iadd (pc := 38) dX9_drop_38 ?_
      refine gz_aload_n (pc := 39) dX9_drop_39 rfl rfl ?_
      refine gz_iload_n (pc := 40) dX9_drop_40 rfl rfl ?_
      refine gz_iload_n (pc := 41) dX9_drop_41 rfl rfl ?_
      refine gz_iconst (v := (1 : Int32)) (pc := 42) dX9_drop_42 rfl ?_
      refine gz_iadd (pc := 43) dX9_drop_43 ?_
      refine gz_cVI (av := [.int x1, .int (x3 + (1 : Int32))]) (st := [.int (((8 : Int32) + ((8 : Int32) * x1)) + x3), .ref r_2]) (pc := 44) dX9_drop_44 kl_RX9_161 rfl (gz_shs c_1) rfl rfl (Nat.le_of_ble_eq_true rfl) (by show d + 0 + 0 + 1 ≤ d + 1; omega) (sX9_factOf (d := d + 0) (gz_gc hf)) (fun y_6 h_5 hf => ?_)
      refine gz_gk hf (fun c_7 hf => ?_)
      refine gz_iast (pc := 47) dX9_drop_47 c_7 ?_
      refine gz_nmH (fun h_8 eh_8 => ?_)
      have hf := gz_gl eh_8 hf
      refine gz_iinc (v := x3 + 1) (lv := [.ref a0, .int x1, .retAddr 0, .int (x3 + 1)]) (pc := 48) dX9_drop_48 rfl rfl (by decide) rfl ?_
      refine gz_goto (tgt := 14) (pc := 51) dX9_drop_51 rfl ?_
      exact ih a0 x1 (x3 + 1) h_8 hf
def fX9_drop_0  (a0 : Nat) (x1 : Int32) (x2 : Int32) (h : gz_H) : Option (Unit × gz_H) :=
    gz_ck (gz_sh h a0 9 29) <|
    gz_br (h.2.2.2 a0 0) fun r_2 =>
    gz_ck (gz_inb h r_2 10 ((2 : Int32) + x1)) <|
    gz_lt (uI h r_2 ((2 : Int32) + x1).toNatClampNeg ((h.2.1 r_2 ((2 : Int32) + x1).toNatClampNeg) - (1 : Int32))) fun h_4 =>
    fX9_drop_14 gz_fu a0 x1 x2 h_4
set_option maxRecDepth 100000 in
set_option maxHeartbeats 1000000 in
theorem sX9_drop_0 {G : gz_G} {d l0 s0 : Nat} {Q : Unit → gz_H → Prop} (a0 : Nat) (x1 : Int32) (x2 : Int32) (h : gz_H) (hf : gz_g (fX9_drop_0  a0 x1 x2 h) Q) : gz_Ok G mX9_drop (d + 1, l0, s0, 0, 0) 0 [.ref a0, .int x1, .int x2, .retAddr 0] [] h (gz_qu Q) := by
  unfold fX9_drop_0 at hf
  refine gz_aload_n (pc := 0) dX9_drop_0 rfl rfl ?_
  refine gz_gk hf (fun c_1 hf => ?_)
  refine gz_gb hf (fun r_2 er_2 hf => ?_)
  refine gz_getR (pc := 1) dX9_drop_1 fl_RX9_7 rfl (gz_shs c_1) er_2 ?_
  refine gz_iconst (v := (2 : Int32)) (pc := 4) dX9_drop_4 rfl ?_
  refine gz_iload_n (pc := 5) dX9_drop_5 rfl rfl ?_
  refine gz_iadd (pc := 6) dX9_drop_6 ?_
  refine gz_dup2 (pc := 7) dX9_drop_7 rfl rfl ?_
  refine gz_gk hf (fun c_3 hf => ?_)
  refine gz_iald (pc := 8) dX9_drop_8 c_3 ?_
  refine gz_iconst (v := (1 : Int32)) (pc := 9) dX9_drop_9 rfl ?_
  refine gz_isub (pc := 10) dX9_drop_10 ?_
  refine gz_iast (pc := 11) dX9_drop_11 c_3 ?_
  refine gz_nmH (fun h_4 eh_4 => ?_)
  have hf := gz_gl eh_4 hf
  refine gz_iload_n (pc := 12) dX9_drop_12 rfl rfl ?_
  refine gz_istore_n (lv := [.ref a0, .int x1, .int x2, .int x2]) (pc := 13) dX9_drop_13 rfl (by decide) rfl ?_
  refine gz_fg (lv := [.ref a0, .int x1, .retAddr 0, .int x2]) ⟨Or.inr rfl, ⟨Or.inr rfl, ⟨Or.inl rfl, ⟨Or.inr rfl, trivial⟩⟩⟩⟩ ?_
  exact sX9_drop_14 gz_fu a0 x1 x2 h_4 hf
def fX9_drop (a0 : Nat) (x1 : Int32) (x2 : Int32) (h : gz_H) : Option (Unit × gz_H) := fX9_drop_0 a0 x1 x2 h
theorem sX9_drop {G : gz_G} {d : Nat} {a0 : Nat} {x1 : Int32} {x2 : Int32} {h : gz_H} {Q : Unit → gz_H → Prop} (hf : gz_g (fX9_drop a0 x1 x2 h) Q) : gz_Cl G mX9_drop (d + 1) 0 0 [.ref a0, .int x1, .int x2] h (gz_qu Q) := gz_cl_of (lo := [.ref a0, .int x1, .int x2, .retAddr 0]) (by decide) rfl rfl (Nat.le_of_ble_eq_true rfl) (sX9_drop_0 a0 x1 x2 h hf)
theorem dX9_doGive_0 : decode cX9_doGive 0 = .ok (.bipush (-9), 2) := by decide +kernel
theorem dX9_doGive_2 : decode cX9_doGive 2 = .ok (.istore_n 3, 1) := by decide +kernel
theorem dX9_doGive_3 : decode cX9_doGive 3 = .ok (.bipush (-9), 2) := by decide +kernel
theorem dX9_doGive_5 : decode cX9_doGive 5 = .ok (.istore 4, 2) := by decide +kernel
theorem dX9_doGive_7 : decode cX9_doGive 7 = .ok (.iconst 0, 1) := by decide +kernel
theorem dX9_doGive_8 : decode cX9_doGive 8 = .ok (.istore 5, 2) := by decide +kernel
theorem dX9_doGive_10 : decode cX9_doGive 10 = .ok (.iload 5, 2) := by decide +kernel
theorem dX9_doGive_12 : decode cX9_doGive 12 = .ok (.aload_n 0, 1) := by decide +kernel
theorem dX9_doGive_13 : decode cX9_doGive 13 = .ok (.getfield 7, 3) := by decide +kernel
theorem dX9_doGive_16 : decode cX9_doGive 16 = .ok (.iconst 2, 1) := by decide +kernel
theorem dX9_doGive_17 : decode cX9_doGive 17 = .ok (.iload_n 1, 1) := by decide +kernel
theorem dX9_doGive_18 : decode cX9_doGive 18 = .ok (.iadd, 1) := by decide +kernel
theorem dX9_doGive_19 : decode cX9_doGive 19 = .ok (.iaload, 1) := by decide +kernel
theorem dX9_doGive_20 : decode cX9_doGive 20 = .ok (.if_icmp .ge 29, 3) := by decide +kernel
theorem dX9_doGive_23 : decode cX9_doGive 23 = .ok (.aload_n 0, 1) := by decide +kernel
theorem dX9_doGive_24 : decode cX9_doGive 24 = .ok (.iload_n 1, 1) := by decide +kernel
theorem dX9_doGive_25 : decode cX9_doGive 25 = .ok (.iload 5, 2) := by decide +kernel
theorem dX9_doGive_27 : decode cX9_doGive 27 = .ok (.invokevirtual 161, 3) := by decide +kernel
theorem dX9_doGive_30 : decode cX9_doGive 30 = .ok (.iload_n 2, 1) := by decide +kernel
theorem dX9_doGive_31 : decode cX9_doGive 31 = .ok (.if_icmp .ne 8, 3) := by decide +kernel
theorem dX9_doGive_34 : decode cX9_doGive 34 = .ok (.iload 5, 2) := by decide +kernel
theorem dX9_doGive_36 : decode cX9_doGive 36 = .ok (.goto 5, 3) := by decide +kernel
theorem dX9_doGive_39 : decode cX9_doGive 39 = .ok (.iload 4, 2) := by decide +kernel
theorem dX9_doGive_41 : decode cX9_doGive 41 = .ok (.istore 4, 2) := by decide +kernel
theorem dX9_doGive_43 : decode cX9_doGive 43 = .ok (.iinc 5 1, 3) := by decide +kernel
theorem dX9_doGive_46 : decode cX9_doGive 46 = .ok (.goto (-36), 3) := by decide +kernel
theorem dX9_doGive_49 : decode cX9_doGive 49 = .ok (.iload 4, 2) := by decide +kernel
theorem dX9_doGive_51 : decode cX9_doGive 51 = .ok (.bipush (-9), 2) := by decide +kernel
theorem dX9_doGive_53 : decode cX9_doGive 53 = .ok (.if_icmp .eq 13, 3) := by decide +kernel
theorem dX9_doGive_56 : decode cX9_doGive 56 = .ok (.aload_n 0, 1) := by decide +kernel
theorem dX9_doGive_57 : decode cX9_doGive 57 = .ok (.iload_n 1, 1) := by decide +kernel
theorem dX9_doGive_58 : decode cX9_doGive 58 = .ok (.iload 4, 2) := by decide +kernel
theorem dX9_doGive_60 : decode cX9_doGive 60 = .ok (.invokevirtual 222, 3) := by decide +kernel
theorem dX9_doGive_63 : decode cX9_doGive 63 = .ok (.goto 33, 3) := by decide +kernel
theorem dX9_doGive_66 : decode cX9_doGive 66 = .ok (.aload_n 0, 1) := by decide +kernel
theorem dX9_doGive_67 : decode cX9_doGive 67 = .ok (.getfield 7, 3) := by decide +kernel
theorem dX9_doGive_70 : decode cX9_doGive 70 = .ok (.iconst 2, 1) := by decide +kernel
theorem dX9_doGive_71 : decode cX9_doGive 71 = .ok (.iload_n 1, 1) := by decide +kernel
theorem dX9_doGive_72 : decode cX9_doGive 72 = .ok (.iadd, 1) := by decide +kernel
theorem dX9_doGive_73 : decode cX9_doGive 73 = .ok (.iaload, 1) := by decide +kernel
theorem dX9_doGive_74 : decode cX9_doGive 74 = .ok (.aload_n 0, 1) := by decide +kernel
theorem dX9_doGive_75 : decode cX9_doGive 75 = .ok (.getfield 19, 3) := by decide +kernel
theorem dX9_doGive_78 : decode cX9_doGive 78 = .ok (.iload_n 1, 1) := by decide +kernel
theorem dX9_doGive_79 : decode cX9_doGive 79 = .ok (.iaload, 1) := by decide +kernel
theorem dX9_doGive_80 : decode cX9_doGive 80 = .ok (.if_icmp .ne 16, 3) := by decide +kernel
theorem dX9_doGive_83 : decode cX9_doGive 83 = .ok (.aload_n 0, 1) := by decide +kernel
theorem dX9_doGive_84 : decode cX9_doGive 84 = .ok (.iload_n 1, 1) := by decide +kernel
theorem dX9_doGive_85 : decode cX9_doGive 85 = .ok (.iconst 0, 1) := by decide +kernel
theorem dX9_doGive_86 : decode cX9_doGive 86 = .ok (.invokevirtual 161, 3) := by decide +kernel
theorem dX9_doGive_89 : decode cX9_doGive 89 = .ok (.istore_n 3, 1) := by decide +kernel
theorem dX9_doGive_90 : decode cX9_doGive 90 = .ok (.aload_n 0, 1) := by decide +kernel
theorem dX9_doGive_91 : decode cX9_doGive 91 = .ok (.iload_n 1, 1) := by decide +kernel
theorem dX9_doGive_92 : decode cX9_doGive 92 = .ok (.iconst 0, 1) := by decide +kernel
theorem dX9_doGive_93 : decode cX9_doGive 93 = .ok (.invokevirtual 222, 3) := by decide +kernel
theorem dX9_doGive_96 : decode cX9_doGive 96 = .ok (.aload_n 0, 1) := by decide +kernel
theorem dX9_doGive_97 : decode cX9_doGive 97 = .ok (.getfield 7, 3) := by decide +kernel
theorem dX9_doGive_100 : decode cX9_doGive 100 = .ok (.bipush 8, 2) := by decide +kernel
theorem dX9_doGive_102 : decode cX9_doGive 102 = .ok (.bipush 8, 2) := by decide +kernel
theorem dX9_doGive_104 : decode cX9_doGive 104 = .ok (.iload_n 1, 1) := by decide +kernel
theorem dX9_doGive_105 : decode cX9_doGive 105 = .ok (.imul, 1) := by decide +kernel
theorem dX9_doGive_106 : decode cX9_doGive 106 = .ok (.iadd, 1) := by decide +kernel
theorem dX9_doGive_107 : decode cX9_doGive 107 = .ok (.aload_n 0, 1) := by decide +kernel
theorem dX9_doGive_108 : decode cX9_doGive 108 = .ok (.getfield 7, 3) := by decide +kernel
theorem dX9_doGive_111 : decode cX9_doGive 111 = .ok (.iconst 2, 1) := by decide +kernel
theorem dX9_doGive_112 : decode cX9_doGive 112 = .ok (.iload_n 1, 1) := by decide +kernel
theorem dX9_doGive_113 : decode cX9_doGive 113 = .ok (.iadd, 1) := by decide +kernel
theorem dX9_doGive_114 : decode cX9_doGive 114 = .ok (.iaload, 1) := by decide +kernel
theorem dX9_doGive_115 : decode cX9_doGive 115 = .ok (.iadd, 1) := by decide +kernel
theorem dX9_doGive_116 : decode cX9_doGive 116 = .ok (.iload_n 2, 1) := by decide +kernel
theorem dX9_doGive_117 : decode cX9_doGive 117 = .ok (.iastore, 1) := by decide +kernel
theorem dX9_doGive_118 : decode cX9_doGive 118 = .ok (.aload_n 0, 1) := by decide +kernel
theorem dX9_doGive_119 : decode cX9_doGive 119 = .ok (.getfield 7, 3) := by decide +kernel
theorem dX9_doGive_122 : decode cX9_doGive 122 = .ok (.iconst 2, 1) := by decide +kernel
theorem dX9_doGive_123 : decode cX9_doGive 123 = .ok (.iload_n 1, 1) := by decide +kernel
theorem dX9_doGive_124 : decode cX9_doGive 124 = .ok (.iadd, 1) := by decide +kernel
theorem dX9_doGive_125 : decode cX9_doGive 125 = .ok (.dup2, 1) := by decide +kernel
theorem dX9_doGive_126 : decode cX9_doGive 126 = .ok (.iaload, 1) := by decide +kernel
theorem dX9_doGive_127 : decode cX9_doGive 127 = .ok (.iconst 1, 1) := by decide +kernel
theorem dX9_doGive_128 : decode cX9_doGive 128 = .ok (.iadd, 1) := by decide +kernel
theorem dX9_doGive_129 : decode cX9_doGive 129 = .ok (.iastore, 1) := by decide +kernel
theorem dX9_doGive_130 : decode cX9_doGive 130 = .ok (.iload_n 3, 1) := by decide +kernel
theorem dX9_doGive_131 : decode cX9_doGive 131 = .ok (.ireturn, 1) := by decide +kernel
def fX9_doGive_41 (k10 : Nat → Int32 → Int32 → Int32 → Int32 → Int32 → gz_H → Option (Int32 × gz_H)) (a0 : Nat) (x1 : Int32) (x2 : Int32) (x3 : Int32) (x5 : Int32) (w0 : Int32) (h : gz_H) : Option (Int32 × gz_H) :=
    k10 a0 x1 x2 x3 w0 (x5 + 1) h
set_option maxRecDepth 100000 in
set_option maxHeartbeats 1000000 in
theorem sX9_doGive_41 {G : gz_G} {d l0 s0 : Nat} {Q : Int32 → gz_H → Prop} {k10 : Nat → Int32 → Int32 → Int32 → Int32 → Int32 → gz_H → Option (Int32 × gz_H)} (hk10 : ∀ (a0 : Nat) (x1 : Int32) (x2 : Int32) (x3 : Int32) (x4 : Int32) (x5 : Int32) (h : gz_H), gz_g (k10 a0 x1 x2 x3 x4 x5 h) Q → gz_Ok G mX9_doGive (d + 2, l0, s0, 0, 0) 10 [.ref a0, .int x1, .int x2, .int x3, .int x4, .int x5] [] h (gz_qi Q)) (a0 : Nat) (x1 : Int32) (x2 : Int32) (x3 : Int32) (x5 : Int32) (w0 : Int32) (h : gz_H) (hf : gz_g (fX9_doGive_41 k10 a0 x1 x2 x3 x5 w0 h) Q) : gz_Ok G mX9_doGive (d + 2, l0, s0, 0, 0) 41 [.ref a0, .int x1, .int x2, .int x3, .retAddr 0, .int x5] [.int w0] h (gz_qi Q) := by
  unfold fX9_doGive_41 at hf
  refine gz_istore (lv := [.ref a0, .int x1, .int x2, .int x3, .int w0, .int x5]) (pc := 41) dX9_doGive_41 (by decide) rfl ?_
  refine gz_iinc (v := x5 + 1) (lv := [.ref a0, .int x1, .int x2, .int x3, .int w0, .int (x5 + 1)]) (pc := 43) dX9_doGive_43 rfl rfl (by decide) rfl ?_
  refine gz_goto (tgt := 10) (pc := 46) dX9_doGive_46 rfl ?_
  exact hk10 a0 x1 x2 x3 w0 (x5 + 1) h hf
def fX9_doGive_96  (a0 : Nat) (x1 : Int32) (x2 : Int32) (x3 : Int32) (h : gz_H) : Option (Int32 × gz_H) :=
    gz_ck (gz_sh h a0 9 29) <|
    gz_br (h.2.2.2 a0 0) fun r_2 =>
    gz_ck (gz_inb h r_2 10 ((2 : Int32) + x1)) <|
    gz_ck (gz_inb h r_2 10 (((8 : Int32) + ((8 : Int32) * x1)) + (h.2.1 r_2 ((2 : Int32) + x1).toNatClampNeg))) <|
    gz_lt (uI h r_2 (((8 : Int32) + ((8 : Int32) * x1)) + (h.2.1 r_2 ((2 : Int32) + x1).toNatClampNeg)).toNatClampNeg x2) fun h_5 =>
    gz_ck (gz_sh h_5 a0 9 29) <|
    gz_br (h_5.2.2.2 a0 0) fun r_7 =>
    gz_ck (gz_inb h_5 r_7 10 ((2 : Int32) + x1)) <|
    gz_lt (uI h_5 r_7 ((2 : Int32) + x1).toNatClampNeg ((h_5.2.1 r_7 ((2 : Int32) + x1).toNatClampNeg) + (1 : Int32))) fun h_9 =>
    some (x3, h_9)
set_option maxRecDepth 100000 in
set_option maxHeartbeats 1000000 in
theorem sX9_doGive_96 {G : gz_G} {d l0 s0 : Nat} {Q : Int32 → gz_H → Prop} (a0 : Nat) (x1 : Int32) (x2 : Int32) (x3 : Int32) (h : gz_H) (hf : gz_g (fX9_doGive_96  a0 x1 x2 x3 h) Q) : gz_Ok G mX9_doGive (d + 2, l0, s0, 0, 0) 96 [.ref a0, .int x1, .int x2, .int x3, .retAddr 0, .retAddr 0] [] h (gz_qi Q) := by
  unfold fX9_doGive_96 at hf
  refine gz_aload_n (pc := 96) dX9_doGive_96 rfl rfl ?_
  refine gz_gk hf (fun c_1 hf => ?_)
  refine gz_gb hf (fun r_2 er_2 hf => ?_)
  refine gz_getR (pc := 97) dX9_doGive_97 fl_RX9_7 rfl (gz_shs c_1) er_2 ?_
  refine gz_bipush (v := (8 : Int32)) (pc := 100) dX9_doGive_100 rfl ?_
  refine gz_bipush (v := (8 : Int32)) (pc := 102) dX9_doGive_102 rfl ?_
  refine gz_iload_n (pc := 104) dX9_doGive_104 rfl rfl ?_
  refine gz_imul (pc := 105) dX9_doGive_105 ?_
  refine gz_iadd (pc := 106) dX9_doGive_106 ?_
  refine gz_aload_n (pc := 107) dX9_doGive_107 rfl rfl ?_
  refine gz_getR (pc := 108) dX9_doGive_108 fl_RX9_7 rfl (gz_shs c_1) er_2 ?_
  refine gz_iconst (v := (2 : Int32)) (pc := 111) dX9_doGive_111 rfl ?_
  refine gz_iload_n (pc := 112) dX9_doGive_112 rfl rfl ?_
  refine gz_iadd (pc := 113) dX9_doGive_113 ?_
  refine gz_gk hf (fun c_3 hf => ?_)
  refine gz_iald (pc := 114) dX9_doGive_114 c_3 ?_
  refine gz_iadd (pc := 115) dX9_doGive_115 ?_
  refine gz_iload_n (pc := 116) dX9_doGive_116 rfl rfl ?_
  refine gz_gk hf (fun c_4 hf => ?_)
  refine gz_iast (pc := 117) dX9_doGive_117 c_4 ?_
  refine gz_nmH (fun h_5 eh_5 => ?_)
  have hf := gz_gl eh_5 hf
  refine gz_aload_n (pc := 118) dX9_doGive_118 rfl rfl ?_
  refine gz_gk hf (fun c_6 hf => ?_)
  refine gz_gb hf (fun r_7 er_7 hf => ?_)
  refine gz_getR (pc := 119) dX9_doGive_119 fl_RX9_7 rfl (gz_shs c_6) er_7 ?_
  refine gz_iconst (v := (2 : Int32)) (pc := 122) dX9_doGive_122 rfl ?_
  refine gz_iload_n (pc := 123) dX9_doGive_123 rfl rfl ?_
  refine gz_iadd (pc := 124) dX9_doGive_124 ?_
  refine gz_dup2 (pc := 125) dX9_doGive_125 rfl rfl ?_
  refine gz_gk hf (fun c_8 hf => ?_)
  refine gz_iald (pc := 126) dX9_doGive_126 c_8 ?_
  refine gz_iconst (v := (1 : Int32)) (pc := 127) dX9_doGive_127 rfl ?_
  refine gz_iadd (pc := 128) dX9_doGive_128 ?_
  refine gz_iast (pc := 129) dX9_doGive_129 c_8 ?_
  refine gz_nmH (fun h_9 eh_9 => ?_)
  have hf := gz_gl eh_9 hf
  refine gz_iload_n (pc := 130) dX9_doGive_130 rfl rfl ?_
  exact gz_irt (pc := 131) dX9_doGive_131 rfl rfl hf
def fX9_doGive_10  : Nat → Nat → Int32 → Int32 → Int32 → Int32 → Int32 → gz_H → Option (Int32 × gz_H)
  | 0, _, _, _, _, _, _, _ => none
  | n + 1, a0, x1, x2, x3, x4, x5, h =>
    gz_ck (gz_sh h a0 9 29) <|
    gz_br (h.2.2.2 a0 0) fun r_2 =>
    gz_ck (gz_inb h r_2 10 ((2 : Int32) + x1)) <|
    if (h.2.1 r_2 ((2 : Int32) + x1).toNatClampNeg) ≤ x5 then (
     if x4 = (-9 : Int32) then (
      gz_br (h.2.2.2 a0 5) fun r_6 =>
      gz_ck (gz_inb h r_6 10 x1) <|
      if (h.2.1 r_2 ((2 : Int32) + x1).toNatClampNeg) = (h.2.1 r_6 x1.toNatClampNeg) then (
       gz_b2 (fX9_factOf a0 x1 (0 : Int32) h) fun y_10 h_9 =>
       gz_ck (gz_sh h_9 a0 9 29) <|
       gz_b2 (fX9_drop a0 x1 (0 : Int32) h_9) fun _ h_11 =>
       fX9_doGive_96 a0 x1 x2 y_10 h_11
      ) else (
       fX9_doGive_96 a0 x1 x2 x3 h
      )
     ) else (
      gz_b2 (fX9_drop a0 x1 x4 h) fun _ h_14 =>
      fX9_doGive_96 a0 x1 x2 x3 h_14
     )
    ) else (
     gz_b2 (fX9_factOf a0 x1 x5 h) fun y_17 h_16 =>
     if y_17 = x2 then (
      fX9_doGive_41 (fun z0 z1 z2 z3 z4 z5 zh => fX9_doGive_10 n z0 z1 z2 z3 z4 z5 zh) a0 x1 x2 x3 x5 x5 h_16
     ) else (
      fX9_doGive_41 (fun z0 z1 z2 z3 z4 z5 zh => fX9_doGive_10 n z0 z1 z2 z3 z4 z5 zh) a0 x1 x2 x3 x5 x4 h_16
     )
    )
set_option maxRecDepth 100000 in
set_option maxHeartbeats 1000000 in
theorem sX9_doGive_10 {G : gz_G} {d l0 s0 : Nat} {Q : Int32 → gz_H → Prop} : ∀ (n : Nat) (a0 : Nat) (x1 : Int32) (x2 : Int32) (x3 : Int32) (x4 : Int32) (x5 : Int32) (h : gz_H), gz_g (fX9_doGive_10  n a0 x1 x2 x3 x4 x5 h) Q → gz_Ok G mX9_doGive (d + 2, l0, s0, 0, 0) 10 [.ref a0, .int x1, .int x2, .int x3, .int x4, .int x5] [] h (gz_qi Q) := by
  intro n
  induction n with
  | zero => intro a0 x1 x2 x3 x4 x5 h hf; exact False.elim hf
  | succ n ih =>
    intro a0 x1 x2 x3 x4 x5 h hf
    rw [fX9_doGive_10] at hf
    refine gz_iload (pc := 10) dX9_doGive_10 rfl ?_
    refine gz_aload_n (pc := 12) dX9_doGive_12 rfl rfl ?_
    refine gz_gk hf (fun c_1 hf => ?_)
    refine gz_gb hf (fun r_2 er_2 hf => ?_)
    refine gz_getR (pc := 13) dX9_doGive_13 fl_RX9_7 rfl (gz_shs c_1) er_2 ?_
    refine gz_iconst (v := (2 : Int32)) (pc := 16) dX9_doGive_16 rfl ?_
    refine gz_iload_n (pc := 17) dX9_doGive_17 rfl rfl ?_
    refine gz_iadd (pc := 18) dX9_doGive_18 ?_
    refine gz_gk hf (fun c_3 hf => ?_)
    refine gz_iald (pc := 19) dX9_doGive_19 c_3 ?_
    refine gz_icmp_ge (tgt := 49) (pc := 20) dX9_doGive_20 rfl (fun c_4 => ?_) (fun c_4 => ?_)
    · have hf := gz_gT hf c_4
      refine gz_iload (pc := 49) dX9_doGive_49 rfl ?_
      refine gz_bipush (v := (-9 : Int32)) (pc := 51) dX9_doGive_51 rfl ?_
      refine gz_icmp_eq (tgt := 66) (pc := 53) dX9_doGive_53 rfl (fun c_5 => ?_) (fun c_5 => ?_)
      · have hf := gz_gT hf c_5
        refine gz_aload_n (pc := 66) dX9_doGive_66 rfl rfl ?_
        refine gz_getR (pc := 67) dX9_doGive_67 fl_RX9_7 rfl (gz_shs c_1) er_2 ?_
        refine gz_iconst (v := (2 : Int32)) (pc := 70) dX9_doGive_70 rfl ?_
        refine gz_iload_n (pc := 71) dX9_doGive_71 rfl rfl ?_
        refine gz_iadd (pc := 72) dX9_doGive_72 ?_
        refine gz_iald (pc := 73) dX9_doGive_73 c_3 ?_
        refine gz_aload_n (pc := 74) dX9_doGive_74 rfl rfl ?_
        refine gz_gb hf (fun r_6 er_6 hf => ?_)
        refine gz_getR (pc := 75) dX9_doGive_75 fl_RX9_19 rfl (gz_shs c_1) er_6 ?_
        refine gz_iload_n (pc := 78) dX9_doGive_78 rfl rfl ?_
        refine gz_gk hf (fun c_7 hf => ?_)
        refine gz_iald (pc := 79) dX9_doGive_79 c_7 ?_
        refine gz_icmp_ne (tgt := 96) (pc := 80) dX9_doGive_80 rfl (fun c_8 => ?_) (fun c_8 => ?_)
        · have hf := gz_gF hf c_8
          refine gz_fg (lv := [.ref a0, .int x1, .int x2, .int x3, .retAddr 0, .retAddr 0]) ⟨Or.inr rfl, ⟨Or.inr rfl, ⟨Or.inr rfl, ⟨Or.inr rfl, ⟨Or.inl rfl, ⟨Or.inl rfl, trivial⟩⟩⟩⟩⟩⟩ ?_
          exact sX9_doGive_96 a0 x1 x2 x3 h hf
        · have hf := gz_gT hf c_8
          refine gz_aload_n (pc := 83) dX9_doGive_83 rfl rfl ?_
          refine gz_iload_n (pc := 84) dX9_doGive_84 rfl rfl ?_
          refine gz_iconst (v := (0 : Int32)) (pc := 85) dX9_doGive_85 rfl ?_
          refine gz_cVI (av := [.int x1, .int (0 : Int32)]) (st := []) (pc := 86) dX9_doGive_86 kl_RX9_161 rfl (gz_shs c_1) rfl rfl (Nat.le_of_ble_eq_true rfl) (by show d + 1 + 0 + 1 ≤ d + 2; omega) (sX9_factOf (d := d + 1) (gz_gc hf)) (fun y_10 h_9 hf => ?_)
          refine gz_istore_n (lv := [.ref a0, .int x1, .int x2, .int y_10, .int x4, .int x5]) (pc := 89) dX9_doGive_89 rfl (by decide) rfl ?_
          refine gz_aload_n (pc := 90) dX9_doGive_90 rfl rfl ?_
          refine gz_iload_n (pc := 91) dX9_doGive_91 rfl rfl ?_
          refine gz_iconst (v := (0 : Int32)) (pc := 92) dX9_doGive_92 rfl ?_
          refine gz_gk hf (fun c_13 hf => ?_)
          refine gz_cVV (av := [.int x1, .int (0 : Int32)]) (st := []) (pc := 93) dX9_doGive_93 kl_RX9_222 rfl (gz_shs c_13) rfl rfl (Nat.le_of_ble_eq_true rfl) (by show d + 0 + 1 + 1 ≤ d + 2; omega) (sX9_drop (d := d + 0) (gz_gc hf)) (fun _ h_11 hf => ?_)
          refine gz_fg (lv := [.ref a0, .int x1, .int x2, .int y_10, .retAddr 0, .retAddr 0]) ⟨Or.inr rfl, ⟨Or.inr rfl, ⟨Or.inr rfl, ⟨Or.inr rfl, ⟨Or.inl rfl, ⟨Or.inl rfl, trivial⟩⟩⟩⟩⟩⟩ ?_
          exact sX9_doGive_96 a0 x1 x2 y_10 h_11 hf
      · have hf := gz_gF hf c_5
        refine gz_aload_n (pc := 56) dX9_doGive_56 rfl rfl ?_
        refine gz_iload_n (pc := 57) dX9_doGive_57 rfl rfl ?_
        refine gz_iload (pc := 58) dX9_doGive_58 rfl ?_
        refine gz_cVV (av := [.int x1, .int x4]) (st := []) (pc := 60) dX9_doGive_60 kl_RX9_222 rfl (gz_shs c_1) rfl rfl (Nat.le_of_ble_eq_true rfl) (by show d + 0 + 1 + 1 ≤ d + 2; omega) (sX9_drop (d := d + 0) (gz_gc hf)) (fun _ h_14 hf => ?_)
        refine gz_goto (tgt := 96) (pc := 63) dX9_doGive_63 rfl ?_
        refine gz_fg (lv := [.ref a0, .int x1, .int x2, .int x3, .retAddr 0, .retAddr 0]) ⟨Or.inr rfl, ⟨Or.inr rfl, ⟨Or.inr rfl, ⟨Or.inr rfl, ⟨Or.inl rfl, ⟨Or.inl rfl, trivial⟩⟩⟩⟩⟩⟩ ?_
        exact sX9_doGive_96 a0 x1 x2 x3 h_14 hf
    · have hf := gz_gF hf c_4
      refine gz_aload_n (pc := 23) dX9_doGive_23 rfl rfl ?_
      refine gz_iload_n (pc := 24) dX9_doGive_24 rfl rfl ?_
      refine gz_iload (pc := 25) dX9_doGive_25 rfl ?_
      refine gz_cVI (av := [.int x1, .int x5]) (st := []) (pc := 27) dX9_doGive_27 kl_RX9_161 rfl (gz_shs c_1) rfl rfl (Nat.le_of_ble_eq_true rfl) (by show d + 1 + 0 + 1 ≤ d + 2; omega) (sX9_factOf (d := d + 1) (gz_gc hf)) (fun y_17 h_16 hf => ?_)
      refine gz_iload_n (pc := 30) dX9_doGive_30 rfl rfl ?_
      refine gz_icmp_ne (tgt := 39) (pc := 31) dX9_doGive_31 rfl (fun c_18 => ?_) (fun c_18 => ?_)
      · have hf := gz_gF hf c_18
        refine gz_iload (pc := 39) dX9_doGive_39 rfl ?_
        refine gz_fg (lv := [.ref a0, .int x1, .int x2, .int x3, .retAddr 0, .int x5]) ⟨Or.inr rfl, ⟨Or.inr rfl, ⟨Or.inr rfl, ⟨Or.inr rfl, ⟨Or.inl rfl, ⟨Or.inr rfl, trivial⟩⟩⟩⟩⟩⟩ ?_
        exact sX9_doGive_41 ih a0 x1 x2 x3 x5 x4 h_16 hf
      · have hf := gz_gT hf c_18
        refine gz_iload (pc := 34) dX9_doGive_34 rfl ?_
        refine gz_goto (tgt := 41) (pc := 36) dX9_doGive_36 rfl ?_
        refine gz_fg (lv := [.ref a0, .int x1, .int x2, .int x3, .retAddr 0, .int x5]) ⟨Or.inr rfl, ⟨Or.inr rfl, ⟨Or.inr rfl, ⟨Or.inr rfl, ⟨Or.inl rfl, ⟨Or.inr rfl, trivial⟩⟩⟩⟩⟩⟩ ?_
        exact sX9_doGive_41 ih a0 x1 x2 x3 x5 x5 h_16 hf
def fX9_doGive_0  (a0 : Nat) (x1 : Int32) (x2 : Int32) (h : gz_H) : Option (Int32 × gz_H) :=
    fX9_doGive_10 gz_fu a0 x1 x2 (-9 : Int32) (-9 : Int32) (0 : Int32) h
set_option maxRecDepth 100000 in
set_option maxHeartbeats 1000000 in
theorem sX9_doGive_0 {G : gz_G} {d l0 s0 : Nat} {Q : Int32 → gz_H → Prop} (a0 : Nat) (x1 : Int32) (x2 : Int32) (h : gz_H) (hf : gz_g (fX9_doGive_0  a0 x1 x2 h) Q) : gz_Ok G mX9_doGive (d + 2, l0, s0, 0, 0) 0 [.ref a0, .int x1, .int x2, .retAddr 0, .retAddr 0, .retAddr 0] [] h (gz_qi Q) := by
  unfold fX9_doGive_0 at hf
  refine gz_bipush (v := (-9 : Int32)) (pc := 0) dX9_doGive_0 rfl ?_
  refine gz_istore_n (lv := [.ref a0, .int x1, .int x2, .int (-9 : Int32), .retAddr 0, .retAddr 0]) (pc := 2) dX9_doGive_2 rfl (by decide) rfl ?_
  refine gz_bipush (v := (-9 : Int32)) (pc := 3) dX9_doGive_3 rfl ?_
  refine gz_istore (lv := [.ref a0, .int x1, .int x2, .int (-9 : Int32), .int (-9 : Int32), .retAddr 0]) (pc := 5) dX9_doGive_5 (by decide) rfl ?_
  refine gz_iconst (v := (0 : Int32)) (pc := 7) dX9_doGive_7 rfl ?_
  refine gz_istore (lv := [.ref a0, .int x1, .int x2, .int (-9 : Int32), .int (-9 : Int32), .int (0 : Int32)]) (pc := 8) dX9_doGive_8 (by decide) rfl ?_
  exact sX9_doGive_10 gz_fu a0 x1 x2 (-9 : Int32) (-9 : Int32) (0 : Int32) h hf
def fX9_doGive (a0 : Nat) (x1 : Int32) (x2 : Int32) (h : gz_H) : Option (Int32 × gz_H) := fX9_doGive_0 a0 x1 x2 h
theorem sX9_doGive {G : gz_G} {d : Nat} {a0 : Nat} {x1 : Int32} {x2 : Int32} {h : gz_H} {Q : Int32 → gz_H → Prop} (hf : gz_g (fX9_doGive a0 x1 x2 h) Q) : gz_Cl G mX9_doGive (d + 2) 0 0 [.ref a0, .int x1, .int x2] h (gz_qi Q) := gz_cl_of (lo := [.ref a0, .int x1, .int x2, .retAddr 0, .retAddr 0, .retAddr 0]) (by decide) rfl rfl (Nat.le_of_ble_eq_true rfl) (sX9_doGive_0 a0 x1 x2 h hf)
theorem dX9_doFright_0 : decode cX9_doFright 0 = .ok (.aload_n 0, 1) := by decide +kernel
theorem dX9_doFright_1 : decode cX9_doFright 1 = .ok (.getfield 7, 3) := by decide +kernel
theorem dX9_doFright_4 : decode cX9_doFright 4 = .ok (.iconst 2, 1) := by decide +kernel
theorem dX9_doFright_5 : decode cX9_doFright 5 = .ok (.iload_n 1, 1) := by decide +kernel
theorem dX9_doFright_6 : decode cX9_doFright 6 = .ok (.iadd, 1) := by decide +kernel
theorem dX9_doFright_7 : decode cX9_doFright 7 = .ok (.iaload, 1) := by decide +kernel
theorem dX9_doFright_8 : decode cX9_doFright 8 = .ok (.istore_n 2, 1) := by decide +kernel
theorem dX9_doFright_9 : decode cX9_doFright 9 = .ok (.aload_n 0, 1) := by decide +kernel
theorem dX9_doFright_10 : decode cX9_doFright 10 = .ok (.getfield 7, 3) := by decide +kernel
theorem dX9_doFright_13 : decode cX9_doFright 13 = .ok (.iconst 2, 1) := by decide +kernel
theorem dX9_doFright_14 : decode cX9_doFright 14 = .ok (.iload_n 1, 1) := by decide +kernel
theorem dX9_doFright_15 : decode cX9_doFright 15 = .ok (.iadd, 1) := by decide +kernel
theorem dX9_doFright_16 : decode cX9_doFright 16 = .ok (.dup2, 1) := by decide +kernel
theorem dX9_doFright_17 : decode cX9_doFright 17 = .ok (.iaload, 1) := by decide +kernel
theorem dX9_doFright_18 : decode cX9_doFright 18 = .ok (.iload_n 2, 1) := by decide +kernel
theorem dX9_doFright_19 : decode cX9_doFright 19 = .ok (.ifCond .ne 7, 3) := by decide +kernel
theorem dX9_doFright_22 : decode cX9_doFright 22 = .ok (.iconst 0, 1) := by decide +kernel
theorem dX9_doFright_23 : decode cX9_doFright 23 = .ok (.goto 4, 3) := by decide +kernel
theorem dX9_doFright_26 : decode cX9_doFright 26 = .ok (.iconst 1, 1) := by decide +kernel
theorem dX9_doFright_27 : decode cX9_doFright 27 = .ok (.isub, 1) := by decide +kernel
theorem dX9_doFright_28 : decode cX9_doFright 28 = .ok (.iastore, 1) := by decide +kernel
theorem dX9_doFright_29 : decode cX9_doFright 29 = .ok (.iload_n 2, 1) := by decide +kernel
theorem dX9_doFright_30 : decode cX9_doFright 30 = .ok (.ifCond .ne 8, 3) := by decide +kernel
theorem dX9_doFright_33 : decode cX9_doFright 33 = .ok (.bipush (-9), 2) := by decide +kernel
theorem dX9_doFright_35 : decode cX9_doFright 35 = .ok (.goto 11, 3) := by decide +kernel
theorem dX9_doFright_38 : decode cX9_doFright 38 = .ok (.aload_n 0, 1) := by decide +kernel
theorem dX9_doFright_39 : decode cX9_doFright 39 = .ok (.iload_n 1, 1) := by decide +kernel
theorem dX9_doFright_40 : decode cX9_doFright 40 = .ok (.iload_n 2, 1) := by decide +kernel
theorem dX9_doFright_41 : decode cX9_doFright 41 = .ok (.iconst 1, 1) := by decide +kernel
theorem dX9_doFright_42 : decode cX9_doFright 42 = .ok (.isub, 1) := by decide +kernel
theorem dX9_doFright_43 : decode cX9_doFright 43 = .ok (.invokevirtual 161, 3) := by decide +kernel
theorem dX9_doFright_46 : decode cX9_doFright 46 = .ok (.ireturn, 1) := by decide +kernel
def fX9_doFright_27  (a0 : Nat) (x1 : Int32) (x2 : Int32) (b0 : Nat) (w1 : Int32) (w2 : Int32) (w3 : Int32) (h : gz_H) : Option (Int32 × gz_H) :=
    gz_ck (gz_inb h b0 10 w1) <|
    gz_lt (uI h b0 w1.toNatClampNeg (w2 - w3)) fun h_2 =>
    if x2 = 0 then (
     some ((-9 : Int32), h_2)
    ) else (
     gz_ck (gz_sh h_2 a0 9 29) <|
     gz_b2 (fX9_factOf a0 x1 (x2 - (1 : Int32)) h_2) fun y_5 h_4 =>
     some (y_5, h_4)
    )
set_option maxRecDepth 100000 in
set_option maxHeartbeats 1000000 in
theorem sX9_doFright_27 {G : gz_G} {d l0 s0 : Nat} {Q : Int32 → gz_H → Prop} (a0 : Nat) (x1 : Int32) (x2 : Int32) (b0 : Nat) (w1 : Int32) (w2 : Int32) (w3 : Int32) (h : gz_H) (hf : gz_g (fX9_doFright_27  a0 x1 x2 b0 w1 w2 w3 h) Q) : gz_Ok G mX9_doFright (d + 1, l0, s0, 0, 0) 27 [.ref a0, .int x1, .int x2] [.int w3, .int w2, .int w1, .ref b0] h (gz_qi Q) := by
  unfold fX9_doFright_27 at hf
  refine gz_isub (pc := 27) dX9_doFright_27 ?_
  refine gz_gk hf (fun c_1 hf => ?_)
  refine gz_iast (pc := 28) dX9_doFright_28 c_1 ?_
  refine gz_nmH (fun h_2 eh_2 => ?_)
  have hf := gz_gl eh_2 hf
  refine gz_iload_n (pc := 29) dX9_doFright_29 rfl rfl ?_
  refine gz_if_ne (tgt := 38) (pc := 30) dX9_doFright_30 rfl (fun c_3 => ?_) (fun c_3 => ?_)
  · have hf := gz_gF hf c_3
    refine gz_aload_n (pc := 38) dX9_doFright_38 rfl rfl ?_
    refine gz_iload_n (pc := 39) dX9_doFright_39 rfl rfl ?_
    refine gz_iload_n (pc := 40) dX9_doFright_40 rfl rfl ?_
    refine gz_iconst (v := (1 : Int32)) (pc := 41) dX9_doFright_41 rfl ?_
    refine gz_isub (pc := 42) dX9_doFright_42 ?_
    refine gz_gk hf (fun c_6 hf => ?_)
    refine gz_cVI (av := [.int x1, .int (x2 - (1 : Int32))]) (st := []) (pc := 43) dX9_doFright_43 kl_RX9_161 rfl (gz_shs c_6) rfl rfl (Nat.le_of_ble_eq_true rfl) (by show d + 0 + 0 + 1 ≤ d + 1; omega) (sX9_factOf (d := d + 0) (gz_gc hf)) (fun y_5 h_4 hf => ?_)
    exact gz_irt (pc := 46) dX9_doFright_46 rfl rfl hf
  · have hf := gz_gT hf c_3
    refine gz_bipush (v := (-9 : Int32)) (pc := 33) dX9_doFright_33 rfl ?_
    refine gz_goto (tgt := 46) (pc := 35) dX9_doFright_35 rfl ?_
    exact gz_irt (pc := 46) dX9_doFright_46 rfl rfl hf
def fX9_doFright_0  (a0 : Nat) (x1 : Int32) (h : gz_H) : Option (Int32 × gz_H) :=
    gz_ck (gz_sh h a0 9 29) <|
    gz_br (h.2.2.2 a0 0) fun r_2 =>
    gz_ck (gz_inb h r_2 10 ((2 : Int32) + x1)) <|
    if (h.2.1 r_2 ((2 : Int32) + x1).toNatClampNeg) = 0 then (
     fX9_doFright_27 a0 x1 (h.2.1 r_2 ((2 : Int32) + x1).toNatClampNeg) r_2 ((2 : Int32) + x1) (h.2.1 r_2 ((2 : Int32) + x1).toNatClampNeg) (0 : Int32) h
    ) else (
     fX9_doFright_27 a0 x1 (h.2.1 r_2 ((2 : Int32) + x1).toNatClampNeg) r_2 ((2 : Int32) + x1) (h.2.1 r_2 ((2 : Int32) + x1).toNatClampNeg) (1 : Int32) h
    )
set_option maxRecDepth 100000 in
set_option maxHeartbeats 1000000 in
theorem sX9_doFright_0 {G : gz_G} {d l0 s0 : Nat} {Q : Int32 → gz_H → Prop} (a0 : Nat) (x1 : Int32) (h : gz_H) (hf : gz_g (fX9_doFright_0  a0 x1 h) Q) : gz_Ok G mX9_doFright (d + 1, l0, s0, 0, 0) 0 [.ref a0, .int x1, .retAddr 0] [] h (gz_qi Q) := by
  unfold fX9_doFright_0 at hf
  refine gz_aload_n (pc := 0) dX9_doFright_0 rfl rfl ?_
  refine gz_gk hf (fun c_1 hf => ?_)
  refine gz_gb hf (fun r_2 er_2 hf => ?_)
  refine gz_getR (pc := 1) dX9_doFright_1 fl_RX9_7 rfl (gz_shs c_1) er_2 ?_
  refine gz_iconst (v := (2 : Int32)) (pc := 4) dX9_doFright_4 rfl ?_
  refine gz_iload_n (pc := 5) dX9_doFright_5 rfl rfl ?_
  refine gz_iadd (pc := 6) dX9_doFright_6 ?_
  refine gz_gk hf (fun c_3 hf => ?_)
  refine gz_iald (pc := 7) dX9_doFright_7 c_3 ?_
  refine gz_istore_n (lv := [.ref a0, .int x1, .int (h.2.1 r_2 ((2 : Int32) + x1).toNatClampNeg)]) (pc := 8) dX9_doFright_8 rfl (by decide) rfl ?_
  refine gz_aload_n (pc := 9) dX9_doFright_9 rfl rfl ?_
  refine gz_getR (pc := 10) dX9_doFright_10 fl_RX9_7 rfl (gz_shs c_1) er_2 ?_
  refine gz_iconst (v := (2 : Int32)) (pc := 13) dX9_doFright_13 rfl ?_
  refine gz_iload_n (pc := 14) dX9_doFright_14 rfl rfl ?_
  refine gz_iadd (pc := 15) dX9_doFright_15 ?_
  refine gz_dup2 (pc := 16) dX9_doFright_16 rfl rfl ?_
  refine gz_iald (pc := 17) dX9_doFright_17 c_3 ?_
  refine gz_iload_n (pc := 18) dX9_doFright_18 rfl rfl ?_
  refine gz_if_ne (tgt := 26) (pc := 19) dX9_doFright_19 rfl (fun c_4 => ?_) (fun c_4 => ?_)
  · have hf := gz_gF hf c_4
    refine gz_iconst (v := (1 : Int32)) (pc := 26) dX9_doFright_26 rfl ?_
    exact sX9_doFright_27 a0 x1 (h.2.1 r_2 ((2 : Int32) + x1).toNatClampNeg) r_2 ((2 : Int32) + x1) (h.2.1 r_2 ((2 : Int32) + x1).toNatClampNeg) (1 : Int32) h hf
  · have hf := gz_gT hf c_4
    refine gz_iconst (v := (0 : Int32)) (pc := 22) dX9_doFright_22 rfl ?_
    refine gz_goto (tgt := 27) (pc := 23) dX9_doFright_23 rfl ?_
    exact sX9_doFright_27 a0 x1 (h.2.1 r_2 ((2 : Int32) + x1).toNatClampNeg) r_2 ((2 : Int32) + x1) (h.2.1 r_2 ((2 : Int32) + x1).toNatClampNeg) (0 : Int32) h hf
def fX9_doFright (a0 : Nat) (x1 : Int32) (h : gz_H) : Option (Int32 × gz_H) := fX9_doFright_0 a0 x1 h
theorem sX9_doFright {G : gz_G} {d : Nat} {a0 : Nat} {x1 : Int32} {h : gz_H} {Q : Int32 → gz_H → Prop} (hf : gz_g (fX9_doFright a0 x1 h) Q) : gz_Cl G mX9_doFright (d + 1) 0 0 [.ref a0, .int x1] h (gz_qi Q) := gz_cl_of (lo := [.ref a0, .int x1, .retAddr 0]) (by decide) rfl rfl (Nat.le_of_ble_eq_true rfl) (sX9_doFright_0 a0 x1 h hf)
theorem dX9_no_0 : decode cX9_no 0 = .ok (.aload_n 0, 1) := by decide +kernel
theorem dX9_no_1 : decode cX9_no 1 = .ok (.iload_n 1, 1) := by decide +kernel
theorem dX9_no_2 : decode cX9_no 2 = .ok (.invokevirtual 177, 3) := by decide +kernel
theorem dX9_no_5 : decode cX9_no 5 = .ok (.ifCond .ne 11, 3) := by decide +kernel
theorem dX9_no_8 : decode cX9_no 8 = .ok (.aload_n 0, 1) := by decide +kernel
theorem dX9_no_9 : decode cX9_no 9 = .ok (.iload_n 2, 1) := by decide +kernel
theorem dX9_no_10 : decode cX9_no 10 = .ok (.invokevirtual 177, 3) := by decide +kernel
theorem dX9_no_13 : decode cX9_no 13 = .ok (.ifCond .eq 8, 3) := by decide +kernel
theorem dX9_no_16 : decode cX9_no 16 = .ok (.bipush (-4), 2) := by decide +kernel
theorem dX9_no_18 : decode cX9_no 18 = .ok (.goto 20, 3) := by decide +kernel
theorem dX9_no_21 : decode cX9_no 21 = .ok (.aload_n 0, 1) := by decide +kernel
theorem dX9_no_22 : decode cX9_no 22 = .ok (.getfield 7, 3) := by decide +kernel
theorem dX9_no_25 : decode cX9_no 25 = .ok (.iconst 0, 1) := by decide +kernel
theorem dX9_no_26 : decode cX9_no 26 = .ok (.iaload, 1) := by decide +kernel
theorem dX9_no_27 : decode cX9_no 27 = .ok (.bipush 40, 2) := by decide +kernel
theorem dX9_no_29 : decode cX9_no 29 = .ok (.if_icmp .ne 8, 3) := by decide +kernel
theorem dX9_no_32 : decode cX9_no 32 = .ok (.bipush (-2), 2) := by decide +kernel
theorem dX9_no_34 : decode cX9_no 34 = .ok (.goto 4, 3) := by decide +kernel
theorem dX9_no_37 : decode cX9_no 37 = .ok (.iconst 0, 1) := by decide +kernel
theorem dX9_no_38 : decode cX9_no 38 = .ok (.ireturn, 1) := by decide +kernel
def fX9_no_16   (h : gz_H) : Option (Int32 × gz_H) :=
    some ((-4 : Int32), h)
set_option maxRecDepth 100000 in
set_option maxHeartbeats 1000000 in
theorem sX9_no_16 {G : gz_G} {d l0 s0 : Nat} {Q : Int32 → gz_H → Prop}  (h : gz_H) (hf : gz_g (fX9_no_16   h) Q) : gz_Ok G mX9_no (d + 2, l0, s0, 0, 0) 16 [.retAddr 0, .retAddr 0, .retAddr 0] [] h (gz_qi Q) := by
  unfold fX9_no_16 at hf
  refine gz_bipush (v := (-4 : Int32)) (pc := 16) dX9_no_16 rfl ?_
  refine gz_goto (tgt := 38) (pc := 18) dX9_no_18 rfl ?_
  exact gz_irt (pc := 38) dX9_no_38 rfl rfl hf
def fX9_no_0  (a0 : Nat) (x1 : Int32) (x2 : Int32) (h : gz_H) : Option (Int32 × gz_H) :=
    gz_ck (gz_sh h a0 9 29) <|
    gz_b2 (fX9_isGone a0 x1 h) fun y_2 h_1 =>
    if y_2 = 0 then (
     gz_ck (gz_sh h_1 a0 9 29) <|
     gz_b2 (fX9_isGone a0 x2 h_1) fun y_6 h_5 =>
     if y_6 = 0 then (
      gz_ck (gz_sh h_5 a0 9 29) <|
      gz_br (h_5.2.2.2 a0 0) fun r_10 =>
      gz_ck (gz_inb h_5 r_10 10 (0 : Int32)) <|
      if (h_5.2.1 r_10 (0 : Int32).toNatClampNeg) = (40 : Int32) then (
       some ((-2 : Int32), h_5)
      ) else (
       some ((0 : Int32), h_5)
      )
     ) else (
      fX9_no_16 h_5
     )
    ) else (
     fX9_no_16 h_1
    )
set_option maxRecDepth 100000 in
set_option maxHeartbeats 1000000 in
theorem sX9_no_0 {G : gz_G} {d l0 s0 : Nat} {Q : Int32 → gz_H → Prop} (a0 : Nat) (x1 : Int32) (x2 : Int32) (h : gz_H) (hf : gz_g (fX9_no_0  a0 x1 x2 h) Q) : gz_Ok G mX9_no (d + 2, l0, s0, 0, 0) 0 [.ref a0, .int x1, .int x2] [] h (gz_qi Q) := by
  unfold fX9_no_0 at hf
  refine gz_aload_n (pc := 0) dX9_no_0 rfl rfl ?_
  refine gz_iload_n (pc := 1) dX9_no_1 rfl rfl ?_
  refine gz_gk hf (fun c_3 hf => ?_)
  refine gz_cVI (av := [.int x1]) (st := []) (pc := 2) dX9_no_2 kl_RX9_177 rfl (gz_shs c_3) rfl rfl (Nat.le_of_ble_eq_true rfl) (by show d + 0 + 1 + 1 ≤ d + 2; omega) (sX9_isGone (d := d + 0) (gz_gc hf)) (fun y_2 h_1 hf => ?_)
  refine gz_if_ne (tgt := 16) (pc := 5) dX9_no_5 rfl (fun c_4 => ?_) (fun c_4 => ?_)
  · have hf := gz_gF hf c_4
    refine gz_fg (lv := [.retAddr 0, .retAddr 0, .retAddr 0]) ⟨Or.inl rfl, ⟨Or.inl rfl, ⟨Or.inl rfl, trivial⟩⟩⟩ ?_
    exact sX9_no_16 h_1 hf
  · have hf := gz_gT hf c_4
    refine gz_aload_n (pc := 8) dX9_no_8 rfl rfl ?_
    refine gz_iload_n (pc := 9) dX9_no_9 rfl rfl ?_
    refine gz_gk hf (fun c_7 hf => ?_)
    refine gz_cVI (av := [.int x2]) (st := []) (pc := 10) dX9_no_10 kl_RX9_177 rfl (gz_shs c_7) rfl rfl (Nat.le_of_ble_eq_true rfl) (by show d + 0 + 1 + 1 ≤ d + 2; omega) (sX9_isGone (d := d + 0) (gz_gc hf)) (fun y_6 h_5 hf => ?_)
    refine gz_if_eq (tgt := 21) (pc := 13) dX9_no_13 rfl (fun c_8 => ?_) (fun c_8 => ?_)
    · have hf := gz_gT hf c_8
      refine gz_aload_n (pc := 21) dX9_no_21 rfl rfl ?_
      refine gz_gk hf (fun c_9 hf => ?_)
      refine gz_gb hf (fun r_10 er_10 hf => ?_)
      refine gz_getR (pc := 22) dX9_no_22 fl_RX9_7 rfl (gz_shs c_9) er_10 ?_
      refine gz_iconst (v := (0 : Int32)) (pc := 25) dX9_no_25 rfl ?_
      refine gz_gk hf (fun c_11 hf => ?_)
      refine gz_iald (pc := 26) dX9_no_26 c_11 ?_
      refine gz_bipush (v := (40 : Int32)) (pc := 27) dX9_no_27 rfl ?_
      refine gz_icmp_ne (tgt := 37) (pc := 29) dX9_no_29 rfl (fun c_12 => ?_) (fun c_12 => ?_)
      · have hf := gz_gF hf c_12
        refine gz_iconst (v := (0 : Int32)) (pc := 37) dX9_no_37 rfl ?_
        exact gz_irt (pc := 38) dX9_no_38 rfl rfl hf
      · have hf := gz_gT hf c_12
        refine gz_bipush (v := (-2 : Int32)) (pc := 32) dX9_no_32 rfl ?_
        refine gz_goto (tgt := 38) (pc := 34) dX9_no_34 rfl ?_
        exact gz_irt (pc := 38) dX9_no_38 rfl rfl hf
    · have hf := gz_gF hf c_8
      refine gz_fg (lv := [.retAddr 0, .retAddr 0, .retAddr 0]) ⟨Or.inl rfl, ⟨Or.inl rfl, ⟨Or.inl rfl, trivial⟩⟩⟩ ?_
      exact sX9_no_16 h_5 hf
def fX9_no (a0 : Nat) (x1 : Int32) (x2 : Int32) (h : gz_H) : Option (Int32 × gz_H) := fX9_no_0 a0 x1 x2 h
theorem sX9_no {G : gz_G} {d : Nat} {a0 : Nat} {x1 : Int32} {x2 : Int32} {h : gz_H} {Q : Int32 → gz_H → Prop} (hf : gz_g (fX9_no a0 x1 x2 h) Q) : gz_Cl G mX9_no (d + 2) 0 0 [.ref a0, .int x1, .int x2] h (gz_qi Q) := gz_cl_of (lo := [.ref a0, .int x1, .int x2]) (by decide) rfl rfl (Nat.le_of_ble_eq_true rfl) (sX9_no_0 a0 x1 x2 h hf)
theorem dX9_give_0 : decode cX9_give 0 = .ok (.aload_n 0, 1) := by decide +kernel
theorem dX9_give_1 : decode cX9_give 1 = .ok (.iload_n 1, 1) := by decide +kernel
theorem dX9_give_2 : decode cX9_give 2 = .ok (.invokevirtual 196, 3) := by decide +kernel
theorem dX9_give_5 : decode cX9_give 5 = .ok (.ifCond .eq 11, 3) := by decide +kernel
theorem dX9_give_8 : decode cX9_give 8 = .ok (.aload_n 0, 1) := by decide +kernel
theorem dX9_give_9 : decode cX9_give 9 = .ok (.iload_n 2, 1) := by decide +kernel
theorem dX9_give_10 : decode cX9_give 10 = .ok (.invokevirtual 219, 3) := by decide +kernel
theorem dX9_give_13 : decode cX9_give 13 = .ok (.ifCond .ne 5, 3) := by decide +kernel
theorem dX9_give_16 : decode cX9_give 16 = .ok (.iconst (-1), 1) := by decide +kernel
theorem dX9_give_17 : decode cX9_give 17 = .ok (.ireturn, 1) := by decide +kernel
theorem dX9_give_18 : decode cX9_give 18 = .ok (.aload_n 0, 1) := by decide +kernel
theorem dX9_give_19 : decode cX9_give 19 = .ok (.iload_n 1, 1) := by decide +kernel
theorem dX9_give_20 : decode cX9_give 20 = .ok (.iload_n 1, 1) := by decide +kernel
theorem dX9_give_21 : decode cX9_give 21 = .ok (.invokevirtual 225, 3) := by decide +kernel
theorem dX9_give_24 : decode cX9_give 24 = .ok (.istore_n 3, 1) := by decide +kernel
theorem dX9_give_25 : decode cX9_give 25 = .ok (.iload_n 3, 1) := by decide +kernel
theorem dX9_give_26 : decode cX9_give 26 = .ok (.ifCond .eq 5, 3) := by decide +kernel
theorem dX9_give_29 : decode cX9_give 29 = .ok (.iload_n 3, 1) := by decide +kernel
theorem dX9_give_30 : decode cX9_give 30 = .ok (.ireturn, 1) := by decide +kernel
theorem dX9_give_31 : decode cX9_give 31 = .ok (.aload_n 0, 1) := by decide +kernel
theorem dX9_give_32 : decode cX9_give 32 = .ok (.invokevirtual 228, 3) := by decide +kernel
theorem dX9_give_35 : decode cX9_give 35 = .ok (.aload_n 0, 1) := by decide +kernel
theorem dX9_give_36 : decode cX9_give 36 = .ok (.iload_n 1, 1) := by decide +kernel
theorem dX9_give_37 : decode cX9_give 37 = .ok (.iload_n 2, 1) := by decide +kernel
theorem dX9_give_38 : decode cX9_give 38 = .ok (.invokevirtual 231, 3) := by decide +kernel
theorem dX9_give_41 : decode cX9_give 41 = .ok (.ireturn, 1) := by decide +kernel
def fX9_give_0  (a0 : Nat) (x1 : Int32) (x2 : Int32) (h : gz_H) : Option (Int32 × gz_H) :=
    gz_ck (gz_sh h a0 9 29) <|
    gz_b2 (fX9_isGoose a0 x1 h) fun y_2 h_1 =>
    if y_2 = 0 then (
     some ((-1 : Int32), h_1)
    ) else (
     gz_ck (gz_sh h_1 a0 9 29) <|
     gz_b2 (fX9_isFact a0 x2 h_1) fun y_6 h_5 =>
     if y_6 = 0 then (
      some ((-1 : Int32), h_5)
     ) else (
      gz_ck (gz_sh h_5 a0 9 29) <|
      gz_b2 (fX9_no a0 x1 x1 h_5) fun y_10 h_9 =>
      if y_10 = 0 then (
       gz_ck (gz_sh h_9 a0 9 29) <|
       gz_b2 (fX9_keepPast a0 h_9) fun _ h_13 =>
       gz_ck (gz_sh h_13 a0 9 29) <|
       gz_b2 (fX9_doGive a0 x1 x2 h_13) fun y_17 h_16 =>
       some (y_17, h_16)
      ) else (
       some (y_10, h_9)
      )
     )
    )
set_option maxRecDepth 100000 in
set_option maxHeartbeats 1000000 in
theorem sX9_give_0 {G : gz_G} {d l0 s0 : Nat} {Q : Int32 → gz_H → Prop} (a0 : Nat) (x1 : Int32) (x2 : Int32) (h : gz_H) (hf : gz_g (fX9_give_0  a0 x1 x2 h) Q) : gz_Ok G mX9_give (d + 3, l0, s0, 0, 0) 0 [.ref a0, .int x1, .int x2, .retAddr 0] [] h (gz_qi Q) := by
  unfold fX9_give_0 at hf
  refine gz_aload_n (pc := 0) dX9_give_0 rfl rfl ?_
  refine gz_iload_n (pc := 1) dX9_give_1 rfl rfl ?_
  refine gz_gk hf (fun c_3 hf => ?_)
  refine gz_cVI (av := [.int x1]) (st := []) (pc := 2) dX9_give_2 kl_RX9_196 rfl (gz_shs c_3) rfl rfl (Nat.le_of_ble_eq_true rfl) (by show d + 1 + 1 + 1 ≤ d + 3; omega) (sX9_isGoose (d := d + 1) (gz_gc hf)) (fun y_2 h_1 hf => ?_)
  refine gz_if_eq (tgt := 16) (pc := 5) dX9_give_5 rfl (fun c_4 => ?_) (fun c_4 => ?_)
  · have hf := gz_gT hf c_4
    refine gz_iconst (v := (-1 : Int32)) (pc := 16) dX9_give_16 rfl ?_
    exact gz_irt (pc := 17) dX9_give_17 rfl rfl hf
  · have hf := gz_gF hf c_4
    refine gz_aload_n (pc := 8) dX9_give_8 rfl rfl ?_
    refine gz_iload_n (pc := 9) dX9_give_9 rfl rfl ?_
    refine gz_gk hf (fun c_7 hf => ?_)
    refine gz_cVI (av := [.int x2]) (st := []) (pc := 10) dX9_give_10 kl_RX9_219 rfl (gz_shs c_7) rfl rfl (Nat.le_of_ble_eq_true rfl) (by show d + 1 + 1 + 1 ≤ d + 3; omega) (sX9_isFact (d := d + 1) (gz_gc hf)) (fun y_6 h_5 hf => ?_)
    refine gz_if_ne (tgt := 18) (pc := 13) dX9_give_13 rfl (fun c_8 => ?_) (fun c_8 => ?_)
    · have hf := gz_gF hf c_8
      refine gz_aload_n (pc := 18) dX9_give_18 rfl rfl ?_
      refine gz_iload_n (pc := 19) dX9_give_19 rfl rfl ?_
      refine gz_iload_n (pc := 20) dX9_give_20 rfl rfl ?_
      refine gz_gk hf (fun c_11 hf => ?_)
      refine gz_cVI (av := [.int x1, .int x1]) (st := []) (pc := 21) dX9_give_21 kl_RX9_225 rfl (gz_shs c_11) rfl rfl (Nat.le_of_ble_eq_true rfl) (by show d + 0 + 2 + 1 ≤ d + 3; omega) (sX9_no (d := d + 0) (gz_gc hf)) (fun y_10 h_9 hf => ?_)
      refine gz_istore_n (lv := [.ref a0, .int x1, .int x2, .int y_10]) (pc := 24) dX9_give_24 rfl (by decide) rfl ?_
      refine gz_iload_n (pc := 25) dX9_give_25 rfl rfl ?_
      refine gz_if_eq (tgt := 31) (pc := 26) dX9_give_26 rfl (fun c_12 => ?_) (fun c_12 => ?_)
      · have hf := gz_gT hf c_12
        refine gz_aload_n (pc := 31) dX9_give_31 rfl rfl ?_
        refine gz_gk hf (fun c_15 hf => ?_)
        refine gz_cVV (av := []) (st := []) (pc := 32) dX9_give_32 kl_RX9_228 rfl (gz_shs c_15) rfl rfl (Nat.le_of_ble_eq_true rfl) (by show d + 2 + 0 + 1 ≤ d + 3; omega) (sX9_keepPast (d := d + 2) (gz_gc hf)) (fun _ h_13 hf => ?_)
        refine gz_aload_n (pc := 35) dX9_give_35 rfl rfl ?_
        refine gz_iload_n (pc := 36) dX9_give_36 rfl rfl ?_
        refine gz_iload_n (pc := 37) dX9_give_37 rfl rfl ?_
        refine gz_gk hf (fun c_18 hf => ?_)
        refine gz_cVI (av := [.int x1, .int x2]) (st := []) (pc := 38) dX9_give_38 kl_RX9_231 rfl (gz_shs c_18) rfl rfl (Nat.le_of_ble_eq_true rfl) (by show d + 0 + 2 + 1 ≤ d + 3; omega) (sX9_doGive (d := d + 0) (gz_gc hf)) (fun y_17 h_16 hf => ?_)
        exact gz_irt (pc := 41) dX9_give_41 rfl rfl hf
      · have hf := gz_gF hf c_12
        refine gz_iload_n (pc := 29) dX9_give_29 rfl rfl ?_
        exact gz_irt (pc := 30) dX9_give_30 rfl rfl hf
    · have hf := gz_gT hf c_8
      refine gz_iconst (v := (-1 : Int32)) (pc := 16) dX9_give_16 rfl ?_
      exact gz_irt (pc := 17) dX9_give_17 rfl rfl hf
def fX9_give (a0 : Nat) (x1 : Int32) (x2 : Int32) (h : gz_H) : Option (Int32 × gz_H) := fX9_give_0 a0 x1 x2 h
theorem sX9_give {G : gz_G} {d : Nat} {a0 : Nat} {x1 : Int32} {x2 : Int32} {h : gz_H} {Q : Int32 → gz_H → Prop} (hf : gz_g (fX9_give a0 x1 x2 h) Q) : gz_Cl G mX9_give (d + 3) 0 0 [.ref a0, .int x1, .int x2] h (gz_qi Q) := gz_cl_of (lo := [.ref a0, .int x1, .int x2, .retAddr 0]) (by decide) rfl rfl (Nat.le_of_ble_eq_true rfl) (sX9_give_0 a0 x1 x2 h hf)
theorem dX9_fright_0 : decode cX9_fright 0 = .ok (.aload_n 0, 1) := by decide +kernel
theorem dX9_fright_1 : decode cX9_fright 1 = .ok (.iload_n 1, 1) := by decide +kernel
theorem dX9_fright_2 : decode cX9_fright 2 = .ok (.invokevirtual 196, 3) := by decide +kernel
theorem dX9_fright_5 : decode cX9_fright 5 = .ok (.ifCond .ne 5, 3) := by decide +kernel
theorem dX9_fright_8 : decode cX9_fright 8 = .ok (.iconst (-1), 1) := by decide +kernel
theorem dX9_fright_9 : decode cX9_fright 9 = .ok (.ireturn, 1) := by decide +kernel
theorem dX9_fright_10 : decode cX9_fright 10 = .ok (.aload_n 0, 1) := by decide +kernel
theorem dX9_fright_11 : decode cX9_fright 11 = .ok (.iload_n 1, 1) := by decide +kernel
theorem dX9_fright_12 : decode cX9_fright 12 = .ok (.iload_n 1, 1) := by decide +kernel
theorem dX9_fright_13 : decode cX9_fright 13 = .ok (.invokevirtual 225, 3) := by decide +kernel
theorem dX9_fright_16 : decode cX9_fright 16 = .ok (.istore_n 2, 1) := by decide +kernel
theorem dX9_fright_17 : decode cX9_fright 17 = .ok (.iload_n 2, 1) := by decide +kernel
theorem dX9_fright_18 : decode cX9_fright 18 = .ok (.ifCond .eq 5, 3) := by decide +kernel
theorem dX9_fright_21 : decode cX9_fright 21 = .ok (.iload_n 2, 1) := by decide +kernel
theorem dX9_fright_22 : decode cX9_fright 22 = .ok (.ireturn, 1) := by decide +kernel
theorem dX9_fright_23 : decode cX9_fright 23 = .ok (.aload_n 0, 1) := by decide +kernel
theorem dX9_fright_24 : decode cX9_fright 24 = .ok (.invokevirtual 228, 3) := by decide +kernel
theorem dX9_fright_27 : decode cX9_fright 27 = .ok (.aload_n 0, 1) := by decide +kernel
theorem dX9_fright_28 : decode cX9_fright 28 = .ok (.iload_n 1, 1) := by decide +kernel
theorem dX9_fright_29 : decode cX9_fright 29 = .ok (.invokevirtual 234, 3) := by decide +kernel
theorem dX9_fright_32 : decode cX9_fright 32 = .ok (.ireturn, 1) := by decide +kernel
def fX9_fright_0  (a0 : Nat) (x1 : Int32) (h : gz_H) : Option (Int32 × gz_H) :=
    gz_ck (gz_sh h a0 9 29) <|
    gz_b2 (fX9_isGoose a0 x1 h) fun y_2 h_1 =>
    if y_2 = 0 then (
     some ((-1 : Int32), h_1)
    ) else (
     gz_ck (gz_sh h_1 a0 9 29) <|
     gz_b2 (fX9_no a0 x1 x1 h_1) fun y_6 h_5 =>
     if y_6 = 0 then (
      gz_ck (gz_sh h_5 a0 9 29) <|
      gz_b2 (fX9_keepPast a0 h_5) fun _ h_9 =>
      gz_ck (gz_sh h_9 a0 9 29) <|
      gz_b2 (fX9_doFright a0 x1 h_9) fun y_13 h_12 =>
      some (y_13, h_12)
     ) else (
      some (y_6, h_5)
     )
    )
set_option maxRecDepth 100000 in
set_option maxHeartbeats 1000000 in
theorem sX9_fright_0 {G : gz_G} {d l0 s0 : Nat} {Q : Int32 → gz_H → Prop} (a0 : Nat) (x1 : Int32) (h : gz_H) (hf : gz_g (fX9_fright_0  a0 x1 h) Q) : gz_Ok G mX9_fright (d + 3, l0, s0, 0, 0) 0 [.ref a0, .int x1, .retAddr 0] [] h (gz_qi Q) := by
  unfold fX9_fright_0 at hf
  refine gz_aload_n (pc := 0) dX9_fright_0 rfl rfl ?_
  refine gz_iload_n (pc := 1) dX9_fright_1 rfl rfl ?_
  refine gz_gk hf (fun c_3 hf => ?_)
  refine gz_cVI (av := [.int x1]) (st := []) (pc := 2) dX9_fright_2 kl_RX9_196 rfl (gz_shs c_3) rfl rfl (Nat.le_of_ble_eq_true rfl) (by show d + 1 + 1 + 1 ≤ d + 3; omega) (sX9_isGoose (d := d + 1) (gz_gc hf)) (fun y_2 h_1 hf => ?_)
  refine gz_if_ne (tgt := 10) (pc := 5) dX9_fright_5 rfl (fun c_4 => ?_) (fun c_4 => ?_)
  · have hf := gz_gF hf c_4
    refine gz_aload_n (pc := 10) dX9_fright_10 rfl rfl ?_
    refine gz_iload_n (pc := 11) dX9_fright_11 rfl rfl ?_
    refine gz_iload_n (pc := 12) dX9_fright_12 rfl rfl ?_
    refine gz_gk hf (fun c_7 hf => ?_)
    refine gz_cVI (av := [.int x1, .int x1]) (st := []) (pc := 13) dX9_fright_13 kl_RX9_225 rfl (gz_shs c_7) rfl rfl (Nat.le_of_ble_eq_true rfl) (by show d + 0 + 2 + 1 ≤ d + 3; omega) (sX9_no (d := d + 0) (gz_gc hf)) (fun y_6 h_5 hf => ?_)
    refine gz_istore_n (lv := [.ref a0, .int x1, .int y_6]) (pc := 16) dX9_fright_16 rfl (by decide) rfl ?_
    refine gz_iload_n (pc := 17) dX9_fright_17 rfl rfl ?_
    refine gz_if_eq (tgt := 23) (pc := 18) dX9_fright_18 rfl (fun c_8 => ?_) (fun c_8 => ?_)
    · have hf := gz_gT hf c_8
      refine gz_aload_n (pc := 23) dX9_fright_23 rfl rfl ?_
      refine gz_gk hf (fun c_11 hf => ?_)
      refine gz_cVV (av := []) (st := []) (pc := 24) dX9_fright_24 kl_RX9_228 rfl (gz_shs c_11) rfl rfl (Nat.le_of_ble_eq_true rfl) (by show d + 2 + 0 + 1 ≤ d + 3; omega) (sX9_keepPast (d := d + 2) (gz_gc hf)) (fun _ h_9 hf => ?_)
      refine gz_aload_n (pc := 27) dX9_fright_27 rfl rfl ?_
      refine gz_iload_n (pc := 28) dX9_fright_28 rfl rfl ?_
      refine gz_gk hf (fun c_14 hf => ?_)
      refine gz_cVI (av := [.int x1]) (st := []) (pc := 29) dX9_fright_29 kl_RX9_234 rfl (gz_shs c_14) rfl rfl (Nat.le_of_ble_eq_true rfl) (by show d + 1 + 1 + 1 ≤ d + 3; omega) (sX9_doFright (d := d + 1) (gz_gc hf)) (fun y_13 h_12 hf => ?_)
      exact gz_irt (pc := 32) dX9_fright_32 rfl rfl hf
    · have hf := gz_gF hf c_8
      refine gz_iload_n (pc := 21) dX9_fright_21 rfl rfl ?_
      exact gz_irt (pc := 22) dX9_fright_22 rfl rfl hf
  · have hf := gz_gT hf c_4
    refine gz_iconst (v := (-1 : Int32)) (pc := 8) dX9_fright_8 rfl ?_
    exact gz_irt (pc := 9) dX9_fright_9 rfl rfl hf
def fX9_fright (a0 : Nat) (x1 : Int32) (h : gz_H) : Option (Int32 × gz_H) := fX9_fright_0 a0 x1 h
theorem sX9_fright {G : gz_G} {d : Nat} {a0 : Nat} {x1 : Int32} {h : gz_H} {Q : Int32 → gz_H → Prop} (hf : gz_g (fX9_fright a0 x1 h) Q) : gz_Cl G mX9_fright (d + 3) 0 0 [.ref a0, .int x1] h (gz_qi Q) := gz_cl_of (lo := [.ref a0, .int x1, .retAddr 0]) (by decide) rfl rfl (Nat.le_of_ble_eq_true rfl) (sX9_fright_0 a0 x1 h hf)
