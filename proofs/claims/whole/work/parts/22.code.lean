theorem dX9_least_0 : decode cX9_least 0 = .ok (.aload_n 0, 1) := by decide +kernel
theorem dX9_least_1 : decode cX9_least 1 = .ok (.iload_n 1, 1) := by decide +kernel
theorem dX9_least_2 : decode cX9_least 2 = .ok (.invokevirtual 257, 3) := by decide +kernel
theorem dX9_least_5 : decode cX9_least 5 = .ok (.ifCond .ne 5, 3) := by decide +kernel
theorem dX9_least_8 : decode cX9_least 8 = .ok (.iconst (-1), 1) := by decide +kernel
theorem dX9_least_9 : decode cX9_least 9 = .ok (.ireturn, 1) := by decide +kernel
theorem dX9_least_10 : decode cX9_least 10 = .ok (.aload_n 0, 1) := by decide +kernel
theorem dX9_least_11 : decode cX9_least 11 = .ok (.invokevirtual 260, 3) := by decide +kernel
theorem dX9_least_14 : decode cX9_least 14 = .ok (.iconst 0, 1) := by decide +kernel
theorem dX9_least_15 : decode cX9_least 15 = .ok (.istore_n 2, 1) := by decide +kernel
theorem dX9_least_16 : decode cX9_least 16 = .ok (.iload_n 2, 1) := by decide +kernel
theorem dX9_least_17 : decode cX9_least 17 = .ok (.sipush 256, 3) := by decide +kernel
theorem dX9_least_20 : decode cX9_least 20 = .ok (.if_icmp .ge 25, 3) := by decide +kernel
theorem dX9_least_23 : decode cX9_least 23 = .ok (.aload_n 0, 1) := by decide +kernel
theorem dX9_least_24 : decode cX9_least 24 = .ok (.getfield 62, 3) := by decide +kernel
theorem dX9_least_27 : decode cX9_least 27 = .ok (.iload_n 2, 1) := by decide +kernel
theorem dX9_least_28 : decode cX9_least 28 = .ok (.iload_n 2, 1) := by decide +kernel
theorem dX9_least_29 : decode cX9_least 29 = .ok (.ifCond .ne 7, 3) := by decide +kernel
theorem dX9_least_32 : decode cX9_least 32 = .ok (.iconst 0, 1) := by decide +kernel
theorem dX9_least_33 : decode cX9_least 33 = .ok (.goto 5, 3) := by decide +kernel
theorem dX9_least_36 : decode cX9_least 36 = .ok (.bipush 99, 2) := by decide +kernel
theorem dX9_least_38 : decode cX9_least 38 = .ok (.iastore, 1) := by decide +kernel
theorem dX9_least_39 : decode cX9_least 39 = .ok (.iinc 2 1, 3) := by decide +kernel
theorem dX9_least_42 : decode cX9_least 42 = .ok (.goto (-26), 3) := by decide +kernel
theorem dX9_least_45 : decode cX9_least 45 = .ok (.iconst 0, 1) := by decide +kernel
theorem dX9_least_46 : decode cX9_least 46 = .ok (.istore_n 2, 1) := by decide +kernel
theorem dX9_least_47 : decode cX9_least 47 = .ok (.iload_n 2, 1) := by decide +kernel
theorem dX9_least_48 : decode cX9_least 48 = .ok (.bipush 8, 2) := by decide +kernel
theorem dX9_least_50 : decode cX9_least 50 = .ok (.if_icmp .ge 118, 3) := by decide +kernel
theorem dX9_least_53 : decode cX9_least 53 = .ok (.iconst 0, 1) := by decide +kernel
theorem dX9_least_54 : decode cX9_least 54 = .ok (.istore_n 3, 1) := by decide +kernel
theorem dX9_least_55 : decode cX9_least 55 = .ok (.iload_n 3, 1) := by decide +kernel
theorem dX9_least_56 : decode cX9_least 56 = .ok (.bipush 6, 2) := by decide +kernel
theorem dX9_least_58 : decode cX9_least 58 = .ok (.aload_n 0, 1) := by decide +kernel
theorem dX9_least_59 : decode cX9_least 59 = .ok (.getfield 158, 3) := by decide +kernel
theorem dX9_least_62 : decode cX9_least 62 = .ok (.imul, 1) := by decide +kernel
theorem dX9_least_63 : decode cX9_least 63 = .ok (.if_icmp .ge 99, 3) := by decide +kernel
theorem dX9_least_66 : decode cX9_least 66 = .ok (.iconst 0, 1) := by decide +kernel
theorem dX9_least_67 : decode cX9_least 67 = .ok (.istore 4, 2) := by decide +kernel
theorem dX9_least_69 : decode cX9_least 69 = .ok (.iload 4, 2) := by decide +kernel
theorem dX9_least_71 : decode cX9_least 71 = .ok (.aload_n 0, 1) := by decide +kernel
theorem dX9_least_72 : decode cX9_least 72 = .ok (.invokevirtual 251, 3) := by decide +kernel
theorem dX9_least_75 : decode cX9_least 75 = .ok (.if_icmp .gt 81, 3) := by decide +kernel
theorem dX9_least_78 : decode cX9_least 78 = .ok (.aload_n 0, 1) := by decide +kernel
theorem dX9_least_79 : decode cX9_least 79 = .ok (.getfield 59, 3) := by decide +kernel
theorem dX9_least_82 : decode cX9_least 82 = .ok (.iload_n 3, 1) := by decide +kernel
theorem dX9_least_83 : decode cX9_least 83 = .ok (.iaload, 1) := by decide +kernel
theorem dX9_least_84 : decode cX9_least 84 = .ok (.ifCond .eq 72, 3) := by decide +kernel
theorem dX9_least_87 : decode cX9_least 87 = .ok (.aload_n 0, 1) := by decide +kernel
theorem dX9_least_88 : decode cX9_least 88 = .ok (.getfield 62, 3) := by decide +kernel
theorem dX9_least_91 : decode cX9_least 91 = .ok (.iload 4, 2) := by decide +kernel
theorem dX9_least_93 : decode cX9_least 93 = .ok (.iaload, 1) := by decide +kernel
theorem dX9_least_94 : decode cX9_least 94 = .ok (.iconst 1, 1) := by decide +kernel
theorem dX9_least_95 : decode cX9_least 95 = .ok (.iadd, 1) := by decide +kernel
theorem dX9_least_96 : decode cX9_least 96 = .ok (.istore 5, 2) := by decide +kernel
theorem dX9_least_98 : decode cX9_least 98 = .ok (.aload_n 0, 1) := by decide +kernel
theorem dX9_least_99 : decode cX9_least 99 = .ok (.getfield 62, 3) := by decide +kernel
theorem dX9_least_102 : decode cX9_least 102 = .ok (.iload 4, 2) := by decide +kernel
theorem dX9_least_104 : decode cX9_least 104 = .ok (.aload_n 0, 1) := by decide +kernel
theorem dX9_least_105 : decode cX9_least 105 = .ok (.getfield 59, 3) := by decide +kernel
theorem dX9_least_108 : decode cX9_least 108 = .ok (.iload_n 3, 1) := by decide +kernel
theorem dX9_least_109 : decode cX9_least 109 = .ok (.iaload, 1) := by decide +kernel
theorem dX9_least_110 : decode cX9_least 110 = .ok (.ior, 1) := by decide +kernel
theorem dX9_least_111 : decode cX9_least 111 = .ok (.iload 5, 2) := by decide +kernel
theorem dX9_least_113 : decode cX9_least 113 = .ok (.aload_n 0, 1) := by decide +kernel
theorem dX9_least_114 : decode cX9_least 114 = .ok (.getfield 62, 3) := by decide +kernel
theorem dX9_least_117 : decode cX9_least 117 = .ok (.iload 4, 2) := by decide +kernel
theorem dX9_least_119 : decode cX9_least 119 = .ok (.aload_n 0, 1) := by decide +kernel
theorem dX9_least_120 : decode cX9_least 120 = .ok (.getfield 59, 3) := by decide +kernel
theorem dX9_least_123 : decode cX9_least 123 = .ok (.iload_n 3, 1) := by decide +kernel
theorem dX9_least_124 : decode cX9_least 124 = .ok (.iaload, 1) := by decide +kernel
theorem dX9_least_125 : decode cX9_least 125 = .ok (.ior, 1) := by decide +kernel
theorem dX9_least_126 : decode cX9_least 126 = .ok (.iaload, 1) := by decide +kernel
theorem dX9_least_127 : decode cX9_least 127 = .ok (.if_icmp .ge 8, 3) := by decide +kernel
theorem dX9_least_130 : decode cX9_least 130 = .ok (.iload 5, 2) := by decide +kernel
theorem dX9_least_132 : decode cX9_least 132 = .ok (.goto 17, 3) := by decide +kernel
theorem dX9_least_135 : decode cX9_least 135 = .ok (.aload_n 0, 1) := by decide +kernel
theorem dX9_least_136 : decode cX9_least 136 = .ok (.getfield 62, 3) := by decide +kernel
theorem dX9_least_139 : decode cX9_least 139 = .ok (.iload 4, 2) := by decide +kernel
theorem dX9_least_141 : decode cX9_least 141 = .ok (.aload_n 0, 1) := by decide +kernel
theorem dX9_least_142 : decode cX9_least 142 = .ok (.getfield 59, 3) := by decide +kernel
theorem dX9_least_145 : decode cX9_least 145 = .ok (.iload_n 3, 1) := by decide +kernel
theorem dX9_least_146 : decode cX9_least 146 = .ok (.iaload, 1) := by decide +kernel
theorem dX9_least_147 : decode cX9_least 147 = .ok (.ior, 1) := by decide +kernel
theorem dX9_least_148 : decode cX9_least 148 = .ok (.iaload, 1) := by decide +kernel
theorem dX9_least_149 : decode cX9_least 149 = .ok (.iastore, 1) := by decide +kernel
theorem dX9_least_150 : decode cX9_least 150 = .ok (.iinc 4 1, 3) := by decide +kernel
theorem dX9_least_153 : decode cX9_least 153 = .ok (.goto (-84), 3) := by decide +kernel
theorem dX9_least_156 : decode cX9_least 156 = .ok (.iinc 3 1, 3) := by decide +kernel
theorem dX9_least_159 : decode cX9_least 159 = .ok (.goto (-104), 3) := by decide +kernel
theorem dX9_least_162 : decode cX9_least 162 = .ok (.iinc 2 1, 3) := by decide +kernel
theorem dX9_least_165 : decode cX9_least 165 = .ok (.goto (-118), 3) := by decide +kernel
theorem dX9_least_168 : decode cX9_least 168 = .ok (.bipush 99, 2) := by decide +kernel
theorem dX9_least_170 : decode cX9_least 170 = .ok (.istore_n 2, 1) := by decide +kernel
theorem dX9_least_171 : decode cX9_least 171 = .ok (.iconst 0, 1) := by decide +kernel
theorem dX9_least_172 : decode cX9_least 172 = .ok (.istore_n 3, 1) := by decide +kernel
theorem dX9_least_173 : decode cX9_least 173 = .ok (.iload_n 3, 1) := by decide +kernel
theorem dX9_least_174 : decode cX9_least 174 = .ok (.aload_n 0, 1) := by decide +kernel
theorem dX9_least_175 : decode cX9_least 175 = .ok (.invokevirtual 251, 3) := by decide +kernel
theorem dX9_least_178 : decode cX9_least 178 = .ok (.if_icmp .gt 38, 3) := by decide +kernel
theorem dX9_least_181 : decode cX9_least 181 = .ok (.iload_n 1, 1) := by decide +kernel
theorem dX9_least_182 : decode cX9_least 182 = .ok (.iload_n 3, 1) := by decide +kernel
theorem dX9_least_183 : decode cX9_least 183 = .ok (.iconst (-1), 1) := by decide +kernel
theorem dX9_least_184 : decode cX9_least 184 = .ok (.ixor, 1) := by decide +kernel
theorem dX9_least_185 : decode cX9_least 185 = .ok (.iand, 1) := by decide +kernel
theorem dX9_least_186 : decode cX9_least 186 = .ok (.ifCond .ne 22, 3) := by decide +kernel
theorem dX9_least_189 : decode cX9_least 189 = .ok (.aload_n 0, 1) := by decide +kernel
theorem dX9_least_190 : decode cX9_least 190 = .ok (.getfield 62, 3) := by decide +kernel
theorem dX9_least_193 : decode cX9_least 193 = .ok (.iload_n 3, 1) := by decide +kernel
theorem dX9_least_194 : decode cX9_least 194 = .ok (.iaload, 1) := by decide +kernel
theorem dX9_least_195 : decode cX9_least 195 = .ok (.iload_n 2, 1) := by decide +kernel
theorem dX9_least_196 : decode cX9_least 196 = .ok (.if_icmp .ge 12, 3) := by decide +kernel
theorem dX9_least_199 : decode cX9_least 199 = .ok (.aload_n 0, 1) := by decide +kernel
theorem dX9_least_200 : decode cX9_least 200 = .ok (.getfield 62, 3) := by decide +kernel
theorem dX9_least_203 : decode cX9_least 203 = .ok (.iload_n 3, 1) := by decide +kernel
theorem dX9_least_204 : decode cX9_least 204 = .ok (.iaload, 1) := by decide +kernel
theorem dX9_least_205 : decode cX9_least 205 = .ok (.goto 4, 3) := by decide +kernel
theorem dX9_least_208 : decode cX9_least 208 = .ok (.iload_n 2, 1) := by decide +kernel
theorem dX9_least_209 : decode cX9_least 209 = .ok (.istore_n 2, 1) := by decide +kernel
theorem dX9_least_210 : decode cX9_least 210 = .ok (.iinc 3 1, 3) := by decide +kernel
theorem dX9_least_213 : decode cX9_least 213 = .ok (.goto (-40), 3) := by decide +kernel
theorem dX9_least_216 : decode cX9_least 216 = .ok (.iload_n 2, 1) := by decide +kernel
theorem dX9_least_217 : decode cX9_least 217 = .ok (.bipush 98, 2) := by decide +kernel
theorem dX9_least_219 : decode cX9_least 219 = .ok (.if_icmp .le 8, 3) := by decide +kernel
theorem dX9_least_222 : decode cX9_least 222 = .ok (.bipush (-9), 2) := by decide +kernel
theorem dX9_least_224 : decode cX9_least 224 = .ok (.goto 4, 3) := by decide +kernel
theorem dX9_least_227 : decode cX9_least 227 = .ok (.iload_n 2, 1) := by decide +kernel
theorem dX9_least_228 : decode cX9_least 228 = .ok (.ireturn, 1) := by decide +kernel
def fX9_least_38 (k16 : Nat → Int32 → Int32 → gz_H → Option (Int32 × gz_H)) (a0 : Nat) (x1 : Int32) (x2 : Int32) (b0 : Nat) (w1 : Int32) (w2 : Int32) (h : gz_H) : Option (Int32 × gz_H) :=
    gz_ck (gz_inb h b0 10 w1) <|
    gz_lt (uI h b0 w1.toNatClampNeg w2) fun h_2 =>
    k16 a0 x1 (x2 + 1) h_2
set_option maxRecDepth 100000 in
set_option maxHeartbeats 1000000 in
theorem sX9_least_38 {G : gz_G} {d l0 s0 : Nat} {Q : Int32 → gz_H → Prop} {k16 : Nat → Int32 → Int32 → gz_H → Option (Int32 × gz_H)} (hk16 : ∀ (a0 : Nat) (x1 : Int32) (x2 : Int32) (h : gz_H), gz_g (k16 a0 x1 x2 h) Q → gz_Ok G mX9_least (d + 4, l0, s0, 0, 0) 16 [.ref a0, .int x1, .int x2, .retAddr 0, .retAddr 0, .retAddr 0] [] h (gz_qi Q)) (a0 : Nat) (x1 : Int32) (x2 : Int32) (b0 : Nat) (w1 : Int32) (w2 : Int32) (h : gz_H) (hf : gz_g (fX9_least_38 k16 a0 x1 x2 b0 w1 w2 h) Q) : gz_Ok G mX9_least (d + 4, l0, s0, 0, 0) 38 [.ref a0, .int x1, .int x2, .retAddr 0, .retAddr 0, .retAddr 0] [.int w2, .int w1, .ref b0] h (gz_qi Q) := by
  unfold fX9_least_38 at hf
  refine gz_gk hf (fun c_1 hf => ?_)
  refine gz_iast (pc := 38) dX9_least_38 c_1 ?_
  refine gz_nmH (fun h_2 eh_2 => ?_)
  have hf := gz_gl eh_2 hf
  refine gz_iinc (v := x2 + 1) (lv := [.ref a0, .int x1, .int (x2 + 1), .retAddr 0, .retAddr 0, .retAddr 0]) (pc := 39) dX9_least_39 rfl rfl (by decide) rfl ?_
  refine gz_goto (tgt := 16) (pc := 42) dX9_least_42 rfl ?_
  exact hk16 a0 x1 (x2 + 1) h_2 hf
def fX9_least_149 (k47 : Nat → Int32 → Int32 → gz_H → Option (Int32 × gz_H)) (k55 : Nat → Int32 → Int32 → Int32 → gz_H → Option (Int32 × gz_H)) (k69 : Nat → Int32 → Int32 → Int32 → Int32 → gz_H → Option (Int32 × gz_H)) (a0 : Nat) (x1 : Int32) (x2 : Int32) (x3 : Int32) (x4 : Int32) (b0 : Nat) (w1 : Int32) (w2 : Int32) (h : gz_H) : Option (Int32 × gz_H) :=
    gz_ck (gz_inb h b0 10 w1) <|
    gz_lt (uI h b0 w1.toNatClampNeg w2) fun h_2 =>
    k69 a0 x1 x2 x3 (x4 + 1) h_2
set_option maxRecDepth 100000 in
set_option maxHeartbeats 1000000 in
theorem sX9_least_149 {G : gz_G} {d l0 s0 : Nat} {Q : Int32 → gz_H → Prop} {k47 : Nat → Int32 → Int32 → gz_H → Option (Int32 × gz_H)} {k55 : Nat → Int32 → Int32 → Int32 → gz_H → Option (Int32 × gz_H)} {k69 : Nat → Int32 → Int32 → Int32 → Int32 → gz_H → Option (Int32 × gz_H)} (hk47 : ∀ (a0 : Nat) (x1 : Int32) (x2 : Int32) (h : gz_H), gz_g (k47 a0 x1 x2 h) Q → gz_Ok G mX9_least (d + 4, l0, s0, 0, 0) 47 [.ref a0, .int x1, .int x2, .retAddr 0, .retAddr 0, .retAddr 0] [] h (gz_qi Q)) (hk55 : ∀ (a0 : Nat) (x1 : Int32) (x2 : Int32) (x3 : Int32) (h : gz_H), gz_g (k55 a0 x1 x2 x3 h) Q → gz_Ok G mX9_least (d + 4, l0, s0, 0, 0) 55 [.ref a0, .int x1, .int x2, .int x3, .retAddr 0, .retAddr 0] [] h (gz_qi Q)) (hk69 : ∀ (a0 : Nat) (x1 : Int32) (x2 : Int32) (x3 : Int32) (x4 : Int32) (h : gz_H), gz_g (k69 a0 x1 x2 x3 x4 h) Q → gz_Ok G mX9_least (d + 4, l0, s0, 0, 0) 69 [.ref a0, .int x1, .int x2, .int x3, .int x4, .retAddr 0] [] h (gz_qi Q)) (a0 : Nat) (x1 : Int32) (x2 : Int32) (x3 : Int32) (x4 : Int32) (b0 : Nat) (w1 : Int32) (w2 : Int32) (h : gz_H) (hf : gz_g (fX9_least_149 k47 k55 k69 a0 x1 x2 x3 x4 b0 w1 w2 h) Q) : gz_Ok G mX9_least (d + 4, l0, s0, 0, 0) 149 [.ref a0, .int x1, .int x2, .int x3, .int x4, .retAddr 0] [.int w2, .int w1, .ref b0] h (gz_qi Q) := by
  unfold fX9_least_149 at hf
  refine gz_gk hf (fun c_1 hf => ?_)
  refine gz_iast (pc := 149) dX9_least_149 c_1 ?_
  refine gz_nmH (fun h_2 eh_2 => ?_)
  have hf := gz_gl eh_2 hf
  refine gz_iinc (v := x4 + 1) (lv := [.ref a0, .int x1, .int x2, .int x3, .int (x4 + 1), .retAddr 0]) (pc := 150) dX9_least_150 rfl rfl (by decide) rfl ?_
  refine gz_goto (tgt := 69) (pc := 153) dX9_least_153 rfl ?_
  exact hk69 a0 x1 x2 x3 (x4 + 1) h_2 hf
def fX9_least_156 (k47 : Nat → Int32 → Int32 → gz_H → Option (Int32 × gz_H)) (k55 : Nat → Int32 → Int32 → Int32 → gz_H → Option (Int32 × gz_H)) (a0 : Nat) (x1 : Int32) (x2 : Int32) (x3 : Int32) (h : gz_H) : Option (Int32 × gz_H) :=
    k55 a0 x1 x2 (x3 + 1) h
set_option maxRecDepth 100000 in
set_option maxHeartbeats 1000000 in
theorem sX9_least_156 {G : gz_G} {d l0 s0 : Nat} {Q : Int32 → gz_H → Prop} {k47 : Nat → Int32 → Int32 → gz_H → Option (Int32 × gz_H)} {k55 : Nat → Int32 → Int32 → Int32 → gz_H → Option (Int32 × gz_H)} (hk47 : ∀ (a0 : Nat) (x1 : Int32) (x2 : Int32) (h : gz_H), gz_g (k47 a0 x1 x2 h) Q → gz_Ok G mX9_least (d + 4, l0, s0, 0, 0) 47 [.ref a0, .int x1, .int x2, .retAddr 0, .retAddr 0, .retAddr 0] [] h (gz_qi Q)) (hk55 : ∀ (a0 : Nat) (x1 : Int32) (x2 : Int32) (x3 : Int32) (h : gz_H), gz_g (k55 a0 x1 x2 x3 h) Q → gz_Ok G mX9_least (d + 4, l0, s0, 0, 0) 55 [.ref a0, .int x1, .int x2, .int x3, .retAddr 0, .retAddr 0] [] h (gz_qi Q)) (a0 : Nat) (x1 : Int32) (x2 : Int32) (x3 : Int32) (h : gz_H) (hf : gz_g (fX9_least_156 k47 k55 a0 x1 x2 x3 h) Q) : gz_Ok G mX9_least (d + 4, l0, s0, 0, 0) 156 [.ref a0, .int x1, .int x2, .int x3, .retAddr 0, .retAddr 0] [] h (gz_qi Q) := by
  unfold fX9_least_156 at hf
  refine gz_iinc (v := x3 + 1) (lv := [.ref a0, .int x1, .int x2, .int (x3 + 1), .retAddr 0, .retAddr 0]) (pc := 156) dX9_least_156 rfl rfl (by decide) rfl ?_
  refine gz_goto (tgt := 55) (pc := 159) dX9_least_159 rfl ?_
  exact hk55 a0 x1 x2 (x3 + 1) h hf
def fX9_least_69 (k47 : Nat → Int32 → Int32 → gz_H → Option (Int32 × gz_H)) (k55 : Nat → Int32 → Int32 → Int32 → gz_H → Option (Int32 × gz_H)) : Nat → Nat → Int32 → Int32 → Int32 → Int32 → gz_H → Option (Int32 × gz_H)
  | 0, _, _, _, _, _, _ => none
  | n + 1, a0, x1, x2, x3, x4, h =>
    gz_ck (gz_sh h a0 9 29) <|
    gz_b2 (fX9_allFacts a0 h) fun y_2 h_1 =>
    if y_2 < x4 then (
     fX9_least_156 k47 k55 a0 x1 x2 x3 h_1
    ) else (
     gz_ck (gz_sh h_1 a0 9 29) <|
     gz_br (h_1.2.2.2 a0 27) fun r_6 =>
     gz_ck (gz_inb h_1 r_6 10 x3) <|
     if (h_1.2.1 r_6 x3.toNatClampNeg) = 0 then (
      fX9_least_156 k47 k55 a0 x1 x2 x3 h_1
     ) else (
      gz_br (h_1.2.2.2 a0 28) fun r_9 =>
      gz_ck (gz_inb h_1 r_9 10 x4) <|
      gz_ck (gz_inb h_1 r_9 10 (x4 ||| (h_1.2.1 r_6 x3.toNatClampNeg))) <|
      if (h_1.2.1 r_9 (x4 ||| (h_1.2.1 r_6 x3.toNatClampNeg)).toNatClampNeg) ≤ ((h_1.2.1 r_9 x4.toNatClampNeg) + (1 : Int32)) then (
       fX9_least_149 k47 k55 (fun z0 z1 z2 z3 z4 zh => fX9_least_69 k47 k55 n z0 z1 z2 z3 z4 zh) a0 x1 x2 x3 x4 r_9 (x4 ||| (h_1.2.1 r_6 x3.toNatClampNeg)) (h_1.2.1 r_9 (x4 ||| (h_1.2.1 r_6 x3.toNatClampNeg)).toNatClampNeg) h_1
      ) else (
       fX9_least_149 k47 k55 (fun z0 z1 z2 z3 z4 zh => fX9_least_69 k47 k55 n z0 z1 z2 z3 z4 zh) a0 x1 x2 x3 x4 r_9 (x4 ||| (h_1.2.1 r_6 x3.toNatClampNeg)) ((h_1.2.1 r_9 x4.toNatClampNeg) + (1 : Int32)) h_1
      )
     )
    )
set_option maxRecDepth 100000 in
set_option maxHeartbeats 1000000 in
theorem sX9_least_69 {G : gz_G} {d l0 s0 : Nat} {Q : Int32 → gz_H → Prop} {k47 : Nat → Int32 → Int32 → gz_H → Option (Int32 × gz_H)} {k55 : Nat → Int32 → Int32 → Int32 → gz_H → Option (Int32 × gz_H)} (hk47 : ∀ (a0 : Nat) (x1 : Int32) (x2 : Int32) (h : gz_H), gz_g (k47 a0 x1 x2 h) Q → gz_Ok G mX9_least (d + 4, l0, s0, 0, 0) 47 [.ref a0, .int x1, .int x2, .retAddr 0, .retAddr 0, .retAddr 0] [] h (gz_qi Q)) (hk55 : ∀ (a0 : Nat) (x1 : Int32) (x2 : Int32) (x3 : Int32) (h : gz_H), gz_g (k55 a0 x1 x2 x3 h) Q → gz_Ok G mX9_least (d + 4, l0, s0, 0, 0) 55 [.ref a0, .int x1, .int x2, .int x3, .retAddr 0, .retAddr 0] [] h (gz_qi Q)) : ∀ (n : Nat) (a0 : Nat) (x1 : Int32) (x2 : Int32) (x3 : Int32) (x4 : Int32) (h : gz_H), gz_g (fX9_least_69 k47 k55 n a0 x1 x2 x3 x4 h) Q → gz_Ok G mX9_least (d + 4, l0, s0, 0, 0) 69 [.ref a0, .int x1, .int x2, .int x3, .int x4, .retAddr 0] [] h (gz_qi Q) := by
  intro n
  induction n with
  | zero => intro a0 x1 x2 x3 x4 h hf; exact False.elim hf
  | succ n ih =>
    intro a0 x1 x2 x3 x4 h hf
    rw [fX9_least_69] at hf
    refine gz_iload (pc := 69) dX9_least_69 rfl ?_
    refine gz_aload_n (pc := 71) dX9_least_71 rfl rfl ?_
    refine gz_gk hf (fun c_3 hf => ?_)
    refine gz_cVI (av := []) (st := [.int x4]) (pc := 72) dX9_least_72 kl_RX9_251 rfl (gz_shs c_3) rfl rfl (Nat.le_of_ble_eq_true rfl) (by show d + 3 + 0 + 1 ≤ d + 4; omega) (sX9_allFacts (d := d + 3) (gz_gc hf)) (fun y_2 h_1 hf => ?_)
    refine gz_icmp_gt (tgt := 156) (pc := 75) dX9_least_75 rfl (fun c_4 => ?_) (fun c_4 => ?_)
    · have hf := gz_gT hf c_4
      refine gz_fg (lv := [.ref a0, .int x1, .int x2, .int x3, .retAddr 0, .retAddr 0]) ⟨Or.inr rfl, ⟨Or.inr rfl, ⟨Or.inr rfl, ⟨Or.inr rfl, ⟨Or.inl rfl, ⟨Or.inl rfl, trivial⟩⟩⟩⟩⟩⟩ ?_
      exact sX9_least_156 hk47 hk55 a0 x1 x2 x3 h_1 hf
    · have hf := gz_gF hf c_4
      refine gz_aload_n (pc := 78) dX9_least_78 rfl rfl ?_
      refine gz_gk hf (fun c_5 hf => ?_)
      refine gz_gb hf (fun r_6 er_6 hf => ?_)
      refine gz_getR (pc := 79) dX9_least_79 fl_RX9_59 rfl (gz_shs c_5) er_6 ?_
      refine gz_iload_n (pc := 82) dX9_least_82 rfl rfl ?_
      refine gz_gk hf (fun c_7 hf => ?_)
      refine gz_iald (pc := 83) dX9_least_83 c_7 ?_
      refine gz_if_eq (tgt := 156) (pc := 84) dX9_least_84 rfl (fun c_8 => ?_) (fun c_8 => ?_)
      · have hf := gz_gT hf c_8
        refine gz_fg (lv := [.ref a0, .int x1, .int x2, .int x3, .retAddr 0, .retAddr 0]) ⟨Or.inr rfl, ⟨Or.inr rfl, ⟨Or.inr rfl, ⟨Or.inr rfl, ⟨Or.inl rfl, ⟨Or.inl rfl, trivial⟩⟩⟩⟩⟩⟩ ?_
        exact sX9_least_156 hk47 hk55 a0 x1 x2 x3 h_1 hf
      · have hf := gz_gF hf c_8
        refine gz_aload_n (pc := 87) dX9_least_87 rfl rfl ?_
        refine gz_gb hf (fun r_9 er_9 hf => ?_)
        refine gz_getR (pc := 88) dX9_least_88 fl_RX9_62 rfl (gz_shs c_5) er_9 ?_
        refine gz_iload (pc := 91) dX9_least_91 rfl ?_
        refine gz_gk hf (fun c_10 hf => ?_)
        refine gz_iald (pc := 93) dX9_least_93 c_10 ?_
        refine gz_iconst (v := (1 : Int32)) (pc := 94) dX9_least_94 rfl ?_
        refine gz_iadd (pc := 95) dX9_least_95 ?_
        refine gz_istore (lv := [.ref a0, .int x1, .int x2, .int x3, .int x4, .int ((h_1.2.1 r_9 x4.toNatClampNeg) + (1 : Int32))]) (pc := 96) dX9_least_96 (by decide) rfl ?_
        refine gz_aload_n (pc := 98) dX9_least_98 rfl rfl ?_
        refine gz_getR (pc := 99) dX9_least_99 fl_RX9_62 rfl (gz_shs c_5) er_9 ?_
        refine gz_iload (pc := 102) dX9_least_102 rfl ?_
        refine gz_aload_n (pc := 104) dX9_least_104 rfl rfl ?_
        refine gz_getR (pc := 105) dX9_least_105 fl_RX9_59 rfl (gz_shs c_5) er_6 ?_
        refine gz_iload_n (pc := 108) dX9_least_108 rfl rfl ?_
        refine gz_iald (pc := 109) dX9_least_109 c_7 ?_
        refine gz_ior (pc := 110) dX9_least_110 ?_
        refine gz_iload (pc := 111) dX9_least_111 rfl ?_
        refine gz_aload_n (pc := 113) dX9_least_113 rfl rfl ?_
        refine gz_getR (pc := 114) dX9_least_114 fl_RX9_62 rfl (gz_shs c_5) er_9 ?_
        refine gz_iload (pc := 117) dX9_least_117 rfl ?_
        refine gz_aload_n (pc := 119) dX9_least_119 rfl rfl ?_
        refine gz_getR (pc := 120) dX9_least_120 fl_RX9_59 rfl (gz_shs c_5) er_6 ?_
        refine gz_iload_n (pc := 123) dX9_least_123 rfl rfl ?_
        refine gz_iald (pc := 124) dX9_least_124 c_7 ?_
        refine gz_ior (pc := 125) dX9_least_125 ?_
        refine gz_gk hf (fun c_11 hf => ?_)
        refine gz_iald (pc := 126) dX9_least_126 c_11 ?_
        refine gz_icmp_ge (tgt := 135) (pc := 127) dX9_least_127 rfl (fun c_12 => ?_) (fun c_12 => ?_)
        · have hf := gz_gT hf c_12
          refine gz_aload_n (pc := 135) dX9_least_135 rfl rfl ?_
          refine gz_getR (pc := 136) dX9_least_136 fl_RX9_62 rfl (gz_shs c_5) er_9 ?_
          refine gz_iload (pc := 139) dX9_least_139 rfl ?_
          refine gz_aload_n (pc := 141) dX9_least_141 rfl rfl ?_
          refine gz_getR (pc := 142) dX9_least_142 fl_RX9_59 rfl (gz_shs c_5) er_6 ?_
          refine gz_iload_n (pc := 145) dX9_least_145 rfl rfl ?_
          refine gz_iald (pc := 146) dX9_least_146 c_7 ?_
          refine gz_ior (pc := 147) dX9_least_147 ?_
          refine gz_iald (pc := 148) dX9_least_148 c_11 ?_
          refine gz_fg (lv := [.ref a0, .int x1, .int x2, .int x3, .int x4, .retAddr 0]) ⟨Or.inr rfl, ⟨Or.inr rfl, ⟨Or.inr rfl, ⟨Or.inr rfl, ⟨Or.inr rfl, ⟨Or.inl rfl, trivial⟩⟩⟩⟩⟩⟩ ?_
          exact sX9_least_149 hk47 hk55 ih a0 x1 x2 x3 x4 r_9 (x4 ||| (h_1.2.1 r_6 x3.toNatClampNeg)) (h_1.2.1 r_9 (x4 ||| (h_1.2.1 r_6 x3.toNatClampNeg)).toNatClampNeg) h_1 hf
        · have hf := gz_gF hf c_12
          refine gz_iload (pc := 130) dX9_least_130 rfl ?_
          refine gz_goto (tgt := 149) (pc := 132) dX9_least_132 rfl ?_
          refine gz_fg (lv := [.ref a0, .int x1, .int x2, .int x3, .int x4, .retAddr 0]) ⟨Or.inr rfl, ⟨Or.inr rfl, ⟨Or.inr rfl, ⟨Or.inr rfl, ⟨Or.inr rfl, ⟨Or.inl rfl, trivial⟩⟩⟩⟩⟩⟩ ?_
          exact sX9_least_149 hk47 hk55 ih a0 x1 x2 x3 x4 r_9 (x4 ||| (h_1.2.1 r_6 x3.toNatClampNeg)) ((h_1.2.1 r_9 x4.toNatClampNeg) + (1 : Int32)) h_1 hf
def fX9_least_55 (k47 : Nat → Int32 → Int32 → gz_H → Option (Int32 × gz_H)) : Nat → Nat → Int32 → Int32 → Int32 → gz_H → Option (Int32 × gz_H)
  | 0, _, _, _, _, _ => none
  | n + 1, a0, x1, x2, x3, h =>
    gz_ck (gz_sh h a0 9 29) <|
    if ((6 : Int32) * (h.2.1 a0 3)) ≤ x3 then (
     k47 a0 x1 (x2 + 1) h
    ) else (
     fX9_least_69 k47 (fun z0 z1 z2 z3 zh => fX9_least_55 k47 n z0 z1 z2 z3 zh) gz_fu a0 x1 x2 x3 (0 : Int32) h
    )
set_option maxRecDepth 100000 in
set_option maxHeartbeats 1000000 in
theorem sX9_least_55 {G : gz_G} {d l0 s0 : Nat} {Q : Int32 → gz_H → Prop} {k47 : Nat → Int32 → Int32 → gz_H → Option (Int32 × gz_H)} (hk47 : ∀ (a0 : Nat) (x1 : Int32) (x2 : Int32) (h : gz_H), gz_g (k47 a0 x1 x2 h) Q → gz_Ok G mX9_least (d + 4, l0, s0, 0, 0) 47 [.ref a0, .int x1, .int x2, .retAddr 0, .retAddr 0, .retAddr 0] [] h (gz_qi Q)) : ∀ (n : Nat) (a0 : Nat) (x1 : Int32) (x2 : Int32) (x3 : Int32) (h : gz_H), gz_g (fX9_least_55 k47 n a0 x1 x2 x3 h) Q → gz_Ok G mX9_least (d + 4, l0, s0, 0, 0) 55 [.ref a0, .int x1, .int x2, .int x3, .retAddr 0, .retAddr 0] [] h (gz_qi Q) := by
  intro n
  induction n with
  | zero => intro a0 x1 x2 x3 h hf; exact False.elim hf
  | succ n ih =>
    intro a0 x1 x2 x3 h hf
    rw [fX9_least_55] at hf
    refine gz_iload_n (pc := 55) dX9_least_55 rfl rfl ?_
    refine gz_bipush (v := (6 : Int32)) (pc := 56) dX9_least_56 rfl ?_
    refine gz_aload_n (pc := 58) dX9_least_58 rfl rfl ?_
    refine gz_gk hf (fun c_1 hf => ?_)
    refine gz_getI (pc := 59) dX9_least_59 fl_RX9_158 rfl (gz_shs c_1) ?_
    refine gz_imul (pc := 62) dX9_least_62 ?_
    refine gz_icmp_ge (tgt := 162) (pc := 63) dX9_least_63 rfl (fun c_2 => ?_) (fun c_2 => ?_)
    · have hf := gz_gT hf c_2
      refine gz_iinc (v := x2 + 1) (lv := [.ref a0, .int x1, .int (x2 + 1), .int x3, .retAddr 0, .retAddr 0]) (pc := 162) dX9_least_162 rfl rfl (by decide) rfl ?_
      refine gz_goto (tgt := 47) (pc := 165) dX9_least_165 rfl ?_
      refine gz_fg (lv := [.ref a0, .int x1, .int (x2 + 1), .retAddr 0, .retAddr 0, .retAddr 0]) ⟨Or.inr rfl, ⟨Or.inr rfl, ⟨Or.inr rfl, ⟨Or.inl rfl, ⟨Or.inl rfl, ⟨Or.inl rfl, trivial⟩⟩⟩⟩⟩⟩ ?_
      exact hk47 a0 x1 (x2 + 1) h hf
    · have hf := gz_gF hf c_2
      refine gz_iconst (v := (0 : Int32)) (pc := 66) dX9_least_66 rfl ?_
      refine gz_istore (lv := [.ref a0, .int x1, .int x2, .int x3, .int (0 : Int32), .retAddr 0]) (pc := 67) dX9_least_67 (by decide) rfl ?_
      exact sX9_least_69 hk47 ih gz_fu a0 x1 x2 x3 (0 : Int32) h hf
def fX9_least_209 (k173 : Nat → Int32 → Int32 → Int32 → gz_H → Option (Int32 × gz_H)) (a0 : Nat) (x1 : Int32) (x3 : Int32) (w0 : Int32) (h : gz_H) : Option (Int32 × gz_H) :=
    k173 a0 x1 w0 (x3 + 1) h
set_option maxRecDepth 100000 in
set_option maxHeartbeats 1000000 in
theorem sX9_least_209 {G : gz_G} {d l0 s0 : Nat} {Q : Int32 → gz_H → Prop} {k173 : Nat → Int32 → Int32 → Int32 → gz_H → Option (Int32 × gz_H)} (hk173 : ∀ (a0 : Nat) (x1 : Int32) (x2 : Int32) (x3 : Int32) (h : gz_H), gz_g (k173 a0 x1 x2 x3 h) Q → gz_Ok G mX9_least (d + 4, l0, s0, 0, 0) 173 [.ref a0, .int x1, .int x2, .int x3, .retAddr 0, .retAddr 0] [] h (gz_qi Q)) (a0 : Nat) (x1 : Int32) (x3 : Int32) (w0 : Int32) (h : gz_H) (hf : gz_g (fX9_least_209 k173 a0 x1 x3 w0 h) Q) : gz_Ok G mX9_least (d + 4, l0, s0, 0, 0) 209 [.ref a0, .int x1, .retAddr 0, .int x3, .retAddr 0, .retAddr 0] [.int w0] h (gz_qi Q) := by
  unfold fX9_least_209 at hf
  refine gz_istore_n (lv := [.ref a0, .int x1, .int w0, .int x3, .retAddr 0, .retAddr 0]) (pc := 209) dX9_least_209 rfl (by decide) rfl ?_
  refine gz_iinc (v := x3 + 1) (lv := [.ref a0, .int x1, .int w0, .int (x3 + 1), .retAddr 0, .retAddr 0]) (pc := 210) dX9_least_210 rfl rfl (by decide) rfl ?_
  refine gz_goto (tgt := 173) (pc := 213) dX9_least_213 rfl ?_
  exact hk173 a0 x1 w0 (x3 + 1) h hf
def fX9_least_208 (k173 : Nat → Int32 → Int32 → Int32 → gz_H → Option (Int32 × gz_H)) (a0 : Nat) (x1 : Int32) (x2 : Int32) (x3 : Int32) (h : gz_H) : Option (Int32 × gz_H) :=
    fX9_least_209 k173 a0 x1 x3 x2 h
set_option maxRecDepth 100000 in
set_option maxHeartbeats 1000000 in
theorem sX9_least_208 {G : gz_G} {d l0 s0 : Nat} {Q : Int32 → gz_H → Prop} {k173 : Nat → Int32 → Int32 → Int32 → gz_H → Option (Int32 × gz_H)} (hk173 : ∀ (a0 : Nat) (x1 : Int32) (x2 : Int32) (x3 : Int32) (h : gz_H), gz_g (k173 a0 x1 x2 x3 h) Q → gz_Ok G mX9_least (d + 4, l0, s0, 0, 0) 173 [.ref a0, .int x1, .int x2, .int x3, .retAddr 0, .retAddr 0] [] h (gz_qi Q)) (a0 : Nat) (x1 : Int32) (x2 : Int32) (x3 : Int32) (h : gz_H) (hf : gz_g (fX9_least_208 k173 a0 x1 x2 x3 h) Q) : gz_Ok G mX9_least (d + 4, l0, s0, 0, 0) 208 [.ref a0, .int x1, .int x2, .int x3, .retAddr 0, .retAddr 0] [] h (gz_qi Q) := by
  unfold fX9_least_208 at hf
  refine gz_iload_n (pc := 208) dX9_least_208 rfl rfl ?_
  refine gz_fg (lv := [.ref a0, .int x1, .retAddr 0, .int x3, .retAddr 0, .retAddr 0]) ⟨Or.inr rfl, ⟨Or.inr rfl, ⟨Or.inl rfl, ⟨Or.inr rfl, ⟨Or.inl rfl, ⟨Or.inl rfl, trivial⟩⟩⟩⟩⟩⟩ ?_
  exact sX9_least_209 hk173 a0 x1 x3 x2 h hf
def fX9_least_173  : Nat → Nat → Int32 → Int32 → Int32 → gz_H → Option (Int32 × gz_H)
  | 0, _, _, _, _, _ => none
  | n + 1, a0, x1, x2, x3, h =>
    gz_ck (gz_sh h a0 9 29) <|
    gz_b2 (fX9_allFacts a0 h) fun y_2 h_1 =>
    if y_2 < x3 then (
     if x2 ≤ (98 : Int32) then (
      some (x2, h_1)
     ) else (
      some ((-9 : Int32), h_1)
     )
    ) else (
     if (x1 &&& (x3 ^^^ (-1 : Int32))) = 0 then (
      gz_ck (gz_sh h_1 a0 9 29) <|
      gz_br (h_1.2.2.2 a0 28) fun r_8 =>
      gz_ck (gz_inb h_1 r_8 10 x3) <|
      if x2 ≤ (h_1.2.1 r_8 x3.toNatClampNeg) then (
       fX9_least_208 (fun z0 z1 z2 z3 zh => fX9_least_173 n z0 z1 z2 z3 zh) a0 x1 x2 x3 h_1
      ) else (
       fX9_least_209 (fun z0 z1 z2 z3 zh => fX9_least_173 n z0 z1 z2 z3 zh) a0 x1 x3 (h_1.2.1 r_8 x3.toNatClampNeg) h_1
      )
     ) else (
      fX9_least_208 (fun z0 z1 z2 z3 zh => fX9_least_173 n z0 z1 z2 z3 zh) a0 x1 x2 x3 h_1
     )
    )
set_option maxRecDepth 100000 in
set_option maxHeartbeats 1000000 in
theorem sX9_least_173 {G : gz_G} {d l0 s0 : Nat} {Q : Int32 → gz_H → Prop} : ∀ (n : Nat) (a0 : Nat) (x1 : Int32) (x2 : Int32) (x3 : Int32) (h : gz_H), gz_g (fX9_least_173  n a0 x1 x2 x3 h) Q → gz_Ok G mX9_least (d + 4, l0, s0, 0, 0) 173 [.ref a0, .int x1, .int x2, .int x3, .retAddr 0, .retAddr 0] [] h (gz_qi Q) := by
  intro n
  induction n with
  | zero => intro a0 x1 x2 x3 h hf; exact False.elim hf
  | succ n ih =>
    intro a0 x1 x2 x3 h hf
    rw [fX9_least_173] at hf
    refine gz_iload_n (pc := 173) dX9_least_173 rfl rfl ?_
    refine gz_aload_n (pc := 174) dX9_least_174 rfl rfl ?_
    refine gz_gk hf (fun c_3 hf => ?_)
    refine gz_cVI (av := []) (st := [.int x3]) (pc := 175) dX9_least_175 kl_RX9_251 rfl (gz_shs c_3) rfl rfl (Nat.le_of_ble_eq_true rfl) (by show d + 3 + 0 + 1 ≤ d + 4; omega) (sX9_allFacts (d := d + 3) (gz_gc hf)) (fun y_2 h_1 hf => ?_)
    refine gz_icmp_gt (tgt := 216) (pc := 178) dX9_least_178 rfl (fun c_4 => ?_) (fun c_4 => ?_)
    · have hf := gz_gT hf c_4
      refine gz_iload_n (pc := 216) dX9_least_216 rfl rfl ?_
      refine gz_bipush (v := (98 : Int32)) (pc := 217) dX9_least_217 rfl ?_
      refine gz_icmp_le (tgt := 227) (pc := 219) dX9_least_219 rfl (fun c_5 => ?_) (fun c_5 => ?_)
      · have hf := gz_gT hf c_5
        refine gz_iload_n (pc := 227) dX9_least_227 rfl rfl ?_
        exact gz_irt (pc := 228) dX9_least_228 rfl rfl hf
      · have hf := gz_gF hf c_5
        refine gz_bipush (v := (-9 : Int32)) (pc := 222) dX9_least_222 rfl ?_
        refine gz_goto (tgt := 228) (pc := 224) dX9_least_224 rfl ?_
        exact gz_irt (pc := 228) dX9_least_228 rfl rfl hf
    · have hf := gz_gF hf c_4
      refine gz_iload_n (pc := 181) dX9_least_181 rfl rfl ?_
      refine gz_iload_n (pc := 182) dX9_least_182 rfl rfl ?_
      refine gz_iconst (v := (-1 : Int32)) (pc := 183) dX9_least_183 rfl ?_
      refine gz_ixor (pc := 184) dX9_least_184 ?_
      refine gz_iand (pc := 185) dX9_least_185 ?_
      refine gz_if_ne (tgt := 208) (pc := 186) dX9_least_186 rfl (fun c_6 => ?_) (fun c_6 => ?_)
      · have hf := gz_gF hf c_6
        exact sX9_least_208 ih a0 x1 x2 x3 h_1 hf
      · have hf := gz_gT hf c_6
        refine gz_aload_n (pc := 189) dX9_least_189 rfl rfl ?_
        refine gz_gk hf (fun c_7 hf => ?_)
        refine gz_gb hf (fun r_8 er_8 hf => ?_)
        refine gz_getR (pc := 190) dX9_least_190 fl_RX9_62 rfl (gz_shs c_7) er_8 ?_
        refine gz_iload_n (pc := 193) dX9_least_193 rfl rfl ?_
        refine gz_gk hf (fun c_9 hf => ?_)
        refine gz_iald (pc := 194) dX9_least_194 c_9 ?_
        refine gz_iload_n (pc := 195) dX9_least_195 rfl rfl ?_
        refine gz_icmp_ge (tgt := 208) (pc := 196) dX9_least_196 rfl (fun c_10 => ?_) (fun c_10 => ?_)
        · have hf := gz_gT hf c_10
          exact sX9_least_208 ih a0 x1 x2 x3 h_1 hf
        · have hf := gz_gF hf c_10
          refine gz_aload_n (pc := 199) dX9_least_199 rfl rfl ?_
          refine gz_getR (pc := 200) dX9_least_200 fl_RX9_62 rfl (gz_shs c_7) er_8 ?_
          refine gz_iload_n (pc := 203) dX9_least_203 rfl rfl ?_
          refine gz_iald (pc := 204) dX9_least_204 c_9 ?_
          refine gz_goto (tgt := 209) (pc := 205) dX9_least_205 rfl ?_
          refine gz_fg (lv := [.ref a0, .int x1, .retAddr 0, .int x3, .retAddr 0, .retAddr 0]) ⟨Or.inr rfl, ⟨Or.inr rfl, ⟨Or.inl rfl, ⟨Or.inr rfl, ⟨Or.inl rfl, ⟨Or.inl rfl, trivial⟩⟩⟩⟩⟩⟩ ?_
          exact sX9_least_209 ih a0 x1 x3 (h_1.2.1 r_8 x3.toNatClampNeg) h_1 hf
def fX9_least_47  : Nat → Nat → Int32 → Int32 → gz_H → Option (Int32 × gz_H)
  | 0, _, _, _, _ => none
  | n + 1, a0, x1, x2, h =>
    if (8 : Int32) ≤ x2 then (
     fX9_least_173 gz_fu a0 x1 (99 : Int32) (0 : Int32) h
    ) else (
     fX9_least_55 (fun z0 z1 z2 zh => fX9_least_47 n z0 z1 z2 zh) gz_fu a0 x1 x2 (0 : Int32) h
    )
set_option maxRecDepth 100000 in
set_option maxHeartbeats 1000000 in
theorem sX9_least_47 {G : gz_G} {d l0 s0 : Nat} {Q : Int32 → gz_H → Prop} : ∀ (n : Nat) (a0 : Nat) (x1 : Int32) (x2 : Int32) (h : gz_H), gz_g (fX9_least_47  n a0 x1 x2 h) Q → gz_Ok G mX9_least (d + 4, l0, s0, 0, 0) 47 [.ref a0, .int x1, .int x2, .retAddr 0, .retAddr 0, .retAddr 0] [] h (gz_qi Q) := by
  intro n
  induction n with
  | zero => intro a0 x1 x2 h hf; exact False.elim hf
  | succ n ih =>
    intro a0 x1 x2 h hf
    rw [fX9_least_47] at hf
    refine gz_iload_n (pc := 47) dX9_least_47 rfl rfl ?_
    refine gz_bipush (v := (8 : Int32)) (pc := 48) dX9_least_48 rfl ?_
    refine gz_icmp_ge (tgt := 168) (pc := 50) dX9_least_50 rfl (fun c_1 => ?_) (fun c_1 => ?_)
    · have hf := gz_gT hf c_1
      refine gz_bipush (v := (99 : Int32)) (pc := 168) dX9_least_168 rfl ?_
      refine gz_istore_n (lv := [.ref a0, .int x1, .int (99 : Int32), .retAddr 0, .retAddr 0, .retAddr 0]) (pc := 170) dX9_least_170 rfl (by decide) rfl ?_
      refine gz_iconst (v := (0 : Int32)) (pc := 171) dX9_least_171 rfl ?_
      refine gz_istore_n (lv := [.ref a0, .int x1, .int (99 : Int32), .int (0 : Int32), .retAddr 0, .retAddr 0]) (pc := 172) dX9_least_172 rfl (by decide) rfl ?_
      exact sX9_least_173 gz_fu a0 x1 (99 : Int32) (0 : Int32) h hf
    · have hf := gz_gF hf c_1
      refine gz_iconst (v := (0 : Int32)) (pc := 53) dX9_least_53 rfl ?_
      refine gz_istore_n (lv := [.ref a0, .int x1, .int x2, .int (0 : Int32), .retAddr 0, .retAddr 0]) (pc := 54) dX9_least_54 rfl (by decide) rfl ?_
      exact sX9_least_55 ih gz_fu a0 x1 x2 (0 : Int32) h hf
def fX9_least_16  : Nat → Nat → Int32 → Int32 → gz_H → Option (Int32 × gz_H)
  | 0, _, _, _, _ => none
  | n + 1, a0, x1, x2, h =>
    if (256 : Int32) ≤ x2 then (
     fX9_least_47 gz_fu a0 x1 (0 : Int32) h
    ) else (
     gz_ck (gz_sh h a0 9 29) <|
     gz_br (h.2.2.2 a0 28) fun r_3 =>
     if x2 = 0 then (
      fX9_least_38 (fun z0 z1 z2 zh => fX9_least_16 n z0 z1 z2 zh) a0 x1 x2 r_3 x2 (0 : Int32) h
     ) else (
      fX9_least_38 (fun z0 z1 z2 zh => fX9_least_16 n z0 z1 z2 zh) a0 x1 x2 r_3 x2 (99 : Int32) h
     )
    )
set_option maxRecDepth 100000 in
set_option maxHeartbeats 1000000 in
theorem sX9_least_16 {G : gz_G} {d l0 s0 : Nat} {Q : Int32 → gz_H → Prop} : ∀ (n : Nat) (a0 : Nat) (x1 : Int32) (x2 : Int32) (h : gz_H), gz_g (fX9_least_16  n a0 x1 x2 h) Q → gz_Ok G mX9_least (d + 4, l0, s0, 0, 0) 16 [.ref a0, .int x1, .int x2, .retAddr 0, .retAddr 0, .retAddr 0] [] h (gz_qi Q) := by
  intro n
  induction n with
  | zero => intro a0 x1 x2 h hf; exact False.elim hf
  | succ n ih =>
    intro a0 x1 x2 h hf
    rw [fX9_least_16] at hf
    refine gz_iload_n (pc := 16) dX9_least_16 rfl rfl ?_
    refine gz_sipush (v := (256 : Int32)) (pc := 17) dX9_least_17 rfl ?_
    refine gz_icmp_ge (tgt := 45) (pc := 20) dX9_least_20 rfl (fun c_1 => ?_) (fun c_1 => ?_)
    · have hf := gz_gT hf c_1
      refine gz_iconst (v := (0 : Int32)) (pc := 45) dX9_least_45 rfl ?_
      refine gz_istore_n (lv := [.ref a0, .int x1, .int (0 : Int32), .retAddr 0, .retAddr 0, .retAddr 0]) (pc := 46) dX9_least_46 rfl (by decide) rfl ?_
      exact sX9_least_47 gz_fu a0 x1 (0 : Int32) h hf
    · have hf := gz_gF hf c_1
      refine gz_aload_n (pc := 23) dX9_least_23 rfl rfl ?_
      refine gz_gk hf (fun c_2 hf => ?_)
      refine gz_gb hf (fun r_3 er_3 hf => ?_)
      refine gz_getR (pc := 24) dX9_least_24 fl_RX9_62 rfl (gz_shs c_2) er_3 ?_
      refine gz_iload_n (pc := 27) dX9_least_27 rfl rfl ?_
      refine gz_iload_n (pc := 28) dX9_least_28 rfl rfl ?_
      refine gz_if_ne (tgt := 36) (pc := 29) dX9_least_29 rfl (fun c_4 => ?_) (fun c_4 => ?_)
      · have hf := gz_gF hf c_4
        refine gz_bipush (v := (99 : Int32)) (pc := 36) dX9_least_36 rfl ?_
        exact sX9_least_38 ih a0 x1 x2 r_3 x2 (99 : Int32) h hf
      · have hf := gz_gT hf c_4
        refine gz_iconst (v := (0 : Int32)) (pc := 32) dX9_least_32 rfl ?_
        refine gz_goto (tgt := 38) (pc := 33) dX9_least_33 rfl ?_
        exact sX9_least_38 ih a0 x1 x2 r_3 x2 (0 : Int32) h hf
def fX9_least_0  (a0 : Nat) (x1 : Int32) (h : gz_H) : Option (Int32 × gz_H) :=
    gz_ck (gz_sh h a0 9 29) <|
    gz_b2 (fX9_isSet a0 x1 h) fun y_2 h_1 =>
    if y_2 = 0 then (
     some ((-1 : Int32), h_1)
    ) else (
     gz_ck (gz_sh h_1 a0 9 29) <|
     gz_b2 (fX9_laySays a0 h_1) fun _ h_5 =>
     fX9_least_16 gz_fu a0 x1 (0 : Int32) h_5
    )
set_option maxRecDepth 100000 in
set_option maxHeartbeats 1000000 in
theorem sX9_least_0 {G : gz_G} {d l0 s0 : Nat} {Q : Int32 → gz_H → Prop} (a0 : Nat) (x1 : Int32) (h : gz_H) (hf : gz_g (fX9_least_0  a0 x1 h) Q) : gz_Ok G mX9_least (d + 4, l0, s0, 0, 0) 0 [.ref a0, .int x1, .retAddr 0, .retAddr 0, .retAddr 0, .retAddr 0] [] h (gz_qi Q) := by
  unfold fX9_least_0 at hf
  refine gz_aload_n (pc := 0) dX9_least_0 rfl rfl ?_
  refine gz_iload_n (pc := 1) dX9_least_1 rfl rfl ?_
  refine gz_gk hf (fun c_3 hf => ?_)
  refine gz_cVI (av := [.int x1]) (st := []) (pc := 2) dX9_least_2 kl_RX9_257 rfl (gz_shs c_3) rfl rfl (Nat.le_of_ble_eq_true rfl) (by show d + 2 + 1 + 1 ≤ d + 4; omega) (sX9_isSet (d := d + 2) (gz_gc hf)) (fun y_2 h_1 hf => ?_)
  refine gz_if_ne (tgt := 10) (pc := 5) dX9_least_5 rfl (fun c_4 => ?_) (fun c_4 => ?_)
  · have hf := gz_gF hf c_4
    refine gz_aload_n (pc := 10) dX9_least_10 rfl rfl ?_
    refine gz_gk hf (fun c_7 hf => ?_)
    refine gz_cVV (av := []) (st := []) (pc := 11) dX9_least_11 kl_RX9_260 rfl (gz_shs c_7) rfl rfl (Nat.le_of_ble_eq_true rfl) (by show d + 0 + 3 + 1 ≤ d + 4; omega) (sX9_laySays (d := d + 0) (gz_gc hf)) (fun _ h_5 hf => ?_)
    refine gz_iconst (v := (0 : Int32)) (pc := 14) dX9_least_14 rfl ?_
    refine gz_istore_n (lv := [.ref a0, .int x1, .int (0 : Int32), .retAddr 0, .retAddr 0, .retAddr 0]) (pc := 15) dX9_least_15 rfl (by decide) rfl ?_
    exact sX9_least_16 gz_fu a0 x1 (0 : Int32) h_5 hf
  · have hf := gz_gT hf c_4
    refine gz_iconst (v := (-1 : Int32)) (pc := 8) dX9_least_8 rfl ?_
    exact gz_irt (pc := 9) dX9_least_9 rfl rfl hf
def fX9_least (a0 : Nat) (x1 : Int32) (h : gz_H) : Option (Int32 × gz_H) := fX9_least_0 a0 x1 h
theorem sX9_least {G : gz_G} {d : Nat} {a0 : Nat} {x1 : Int32} {h : gz_H} {Q : Int32 → gz_H → Prop} (hf : gz_g (fX9_least a0 x1 h) Q) : gz_Cl G mX9_least (d + 4) 0 0 [.ref a0, .int x1] h (gz_qi Q) := gz_cl_of (lo := [.ref a0, .int x1, .retAddr 0, .retAddr 0, .retAddr 0, .retAddr 0]) (by decide) rfl rfl (Nat.le_of_ble_eq_true rfl) (sX9_least_0 a0 x1 h hf)
theorem dX9_risk_0 : decode cX9_risk 0 = .ok (.iconst 0, 1) := by decide +kernel
theorem dX9_risk_1 : decode cX9_risk 1 = .ok (.istore_n 1, 1) := by decide +kernel
theorem dX9_risk_2 : decode cX9_risk 2 = .ok (.iconst 0, 1) := by decide +kernel
theorem dX9_risk_3 : decode cX9_risk 3 = .ok (.istore_n 2, 1) := by decide +kernel
theorem dX9_risk_4 : decode cX9_risk 4 = .ok (.aload_n 0, 1) := by decide +kernel
theorem dX9_risk_5 : decode cX9_risk 5 = .ok (.bipush (-9), 2) := by decide +kernel
theorem dX9_risk_7 : decode cX9_risk 7 = .ok (.putfield 69, 3) := by decide +kernel
theorem dX9_risk_10 : decode cX9_risk 10 = .ok (.iconst 0, 1) := by decide +kernel
theorem dX9_risk_11 : decode cX9_risk 11 = .ok (.istore_n 3, 1) := by decide +kernel
theorem dX9_risk_12 : decode cX9_risk 12 = .ok (.iload_n 3, 1) := by decide +kernel
theorem dX9_risk_13 : decode cX9_risk 13 = .ok (.aload_n 0, 1) := by decide +kernel
theorem dX9_risk_14 : decode cX9_risk 14 = .ok (.getfield 158, 3) := by decide +kernel
theorem dX9_risk_17 : decode cX9_risk 17 = .ok (.if_icmp .ge 61, 3) := by decide +kernel
theorem dX9_risk_20 : decode cX9_risk 20 = .ok (.aload_n 0, 1) := by decide +kernel
theorem dX9_risk_21 : decode cX9_risk 21 = .ok (.iload_n 3, 1) := by decide +kernel
theorem dX9_risk_22 : decode cX9_risk 22 = .ok (.invokevirtual 216, 3) := by decide +kernel
theorem dX9_risk_25 : decode cX9_risk 25 = .ok (.istore 4, 2) := by decide +kernel
theorem dX9_risk_27 : decode cX9_risk 27 = .ok (.iload_n 1, 1) := by decide +kernel
theorem dX9_risk_28 : decode cX9_risk 28 = .ok (.iload 4, 2) := by decide +kernel
theorem dX9_risk_30 : decode cX9_risk 30 = .ok (.ior, 1) := by decide +kernel
theorem dX9_risk_31 : decode cX9_risk 31 = .ok (.istore_n 1, 1) := by decide +kernel
theorem dX9_risk_32 : decode cX9_risk 32 = .ok (.aload_n 0, 1) := by decide +kernel
theorem dX9_risk_33 : decode cX9_risk 33 = .ok (.iload 4, 2) := by decide +kernel
theorem dX9_risk_35 : decode cX9_risk 35 = .ok (.invokestatic 193, 3) := by decide +kernel
theorem dX9_risk_38 : decode cX9_risk 38 = .ok (.iload_n 2, 1) := by decide +kernel
theorem dX9_risk_39 : decode cX9_risk 39 = .ok (.if_icmp .le 7, 3) := by decide +kernel
theorem dX9_risk_42 : decode cX9_risk 42 = .ok (.iload_n 3, 1) := by decide +kernel
theorem dX9_risk_43 : decode cX9_risk 43 = .ok (.goto 7, 3) := by decide +kernel
theorem dX9_risk_46 : decode cX9_risk 46 = .ok (.aload_n 0, 1) := by decide +kernel
theorem dX9_risk_47 : decode cX9_risk 47 = .ok (.getfield 69, 3) := by decide +kernel
theorem dX9_risk_50 : decode cX9_risk 50 = .ok (.putfield 69, 3) := by decide +kernel
theorem dX9_risk_53 : decode cX9_risk 53 = .ok (.iload 4, 2) := by decide +kernel
theorem dX9_risk_55 : decode cX9_risk 55 = .ok (.invokestatic 193, 3) := by decide +kernel
theorem dX9_risk_58 : decode cX9_risk 58 = .ok (.iload_n 2, 1) := by decide +kernel
theorem dX9_risk_59 : decode cX9_risk 59 = .ok (.if_icmp .le 11, 3) := by decide +kernel
theorem dX9_risk_62 : decode cX9_risk 62 = .ok (.iload 4, 2) := by decide +kernel
theorem dX9_risk_64 : decode cX9_risk 64 = .ok (.invokestatic 193, 3) := by decide +kernel
theorem dX9_risk_67 : decode cX9_risk 67 = .ok (.goto 4, 3) := by decide +kernel
theorem dX9_risk_70 : decode cX9_risk 70 = .ok (.iload_n 2, 1) := by decide +kernel
theorem dX9_risk_71 : decode cX9_risk 71 = .ok (.istore_n 2, 1) := by decide +kernel
theorem dX9_risk_72 : decode cX9_risk 72 = .ok (.iinc 3 1, 3) := by decide +kernel
theorem dX9_risk_75 : decode cX9_risk 75 = .ok (.goto (-63), 3) := by decide +kernel
theorem dX9_risk_78 : decode cX9_risk 78 = .ok (.iload_n 1, 1) := by decide +kernel
theorem dX9_risk_79 : decode cX9_risk 79 = .ok (.ireturn, 1) := by decide +kernel
def fX9_risk_71 (k12 : Nat → Int32 → Int32 → Int32 → gz_H → Option (Int32 × gz_H)) (a0 : Nat) (x1 : Int32) (x3 : Int32) (w0 : Int32) (h : gz_H) : Option (Int32 × gz_H) :=
    k12 a0 x1 w0 (x3 + 1) h
set_option maxRecDepth 100000 in
set_option maxHeartbeats 1000000 in
theorem sX9_risk_71 {G : gz_G} {d l0 s0 : Nat} {Q : Int32 → gz_H → Prop} {k12 : Nat → Int32 → Int32 → Int32 → gz_H → Option (Int32 × gz_H)} (hk12 : ∀ (a0 : Nat) (x1 : Int32) (x2 : Int32) (x3 : Int32) (h : gz_H), gz_g (k12 a0 x1 x2 x3 h) Q → gz_Ok G mX9_risk (d + 3, l0, s0, 0, 0) 12 [.ref a0, .int x1, .int x2, .int x3, .retAddr 0] [] h (gz_qi Q)) (a0 : Nat) (x1 : Int32) (x3 : Int32) (w0 : Int32) (h : gz_H) (hf : gz_g (fX9_risk_71 k12 a0 x1 x3 w0 h) Q) : gz_Ok G mX9_risk (d + 3, l0, s0, 0, 0) 71 [.ref a0, .int x1, .retAddr 0, .int x3, .retAddr 0] [.int w0] h (gz_qi Q) := by
  unfold fX9_risk_71 at hf
  refine gz_istore_n (lv := [.ref a0, .int x1, .int w0, .int x3, .retAddr 0]) (pc := 71) dX9_risk_71 rfl (by decide) rfl ?_
  refine gz_iinc (v := x3 + 1) (lv := [.ref a0, .int x1, .int w0, .int (x3 + 1), .retAddr 0]) (pc := 72) dX9_risk_72 rfl rfl (by decide) rfl ?_
  refine gz_goto (tgt := 12) (pc := 75) dX9_risk_75 rfl ?_
  exact hk12 a0 x1 w0 (x3 + 1) h hf
def fX9_risk_50 (k12 : Nat → Int32 → Int32 → Int32 → gz_H → Option (Int32 × gz_H)) (a0 : Nat) (x1 : Int32) (x2 : Int32) (x3 : Int32) (x4 : Int32) (b0 : Nat) (w1 : Int32) (h : gz_H) : Option (Int32 × gz_H) :=
    gz_ck (gz_sh h b0 9 29) <|
    gz_lt (uI h b0 11 w1) fun h_2 =>
    gz_b2 (fX9_bits x4 h_2) fun y_4 h_3 =>
    if y_4 ≤ x2 then (
     fX9_risk_71 k12 a0 x1 x3 x2 h_3
    ) else (
     gz_b2 (fX9_bits x4 h_3) fun y_7 h_6 =>
     fX9_risk_71 k12 a0 x1 x3 y_7 h_6
    )
set_option maxRecDepth 100000 in
set_option maxHeartbeats 1000000 in
theorem sX9_risk_50 {G : gz_G} {d l0 s0 : Nat} {Q : Int32 → gz_H → Prop} {k12 : Nat → Int32 → Int32 → Int32 → gz_H → Option (Int32 × gz_H)} (hk12 : ∀ (a0 : Nat) (x1 : Int32) (x2 : Int32) (x3 : Int32) (h : gz_H), gz_g (k12 a0 x1 x2 x3 h) Q → gz_Ok G mX9_risk (d + 3, l0, s0, 0, 0) 12 [.ref a0, .int x1, .int x2, .int x3, .retAddr 0] [] h (gz_qi Q)) (a0 : Nat) (x1 : Int32) (x2 : Int32) (x3 : Int32) (x4 : Int32) (b0 : Nat) (w1 : Int32) (h : gz_H) (hf : gz_g (fX9_risk_50 k12 a0 x1 x2 x3 x4 b0 w1 h) Q) : gz_Ok G mX9_risk (d + 3, l0, s0, 0, 0) 50 [.ref a0, .int x1, .int x2, .int x3, .int x4] [.int w1, .ref b0] h (gz_qi Q) := by
  unfold fX9_risk_50 at hf
  refine gz_gk hf (fun c_1 hf => ?_)
  refine gz_putI (pc := 50) dX9_risk_50 fw_X9_risk_69 rfl rfl rfl (gz_shs c_1) ?_
  refine gz_nmH (fun h_2 eh_2 => ?_)
  have hf := gz_gl eh_2 hf
  refine gz_iload (pc := 53) dX9_risk_53 rfl ?_
  refine gz_cSI (av := [.int x4]) (st := []) (pc := 55) dX9_risk_55 kl_RX9_193 rfl rfl (Nat.le_of_ble_eq_true rfl) (by show d + 2 + 0 + 1 ≤ d + 3; omega) (sX9_bits (d := d + 2) (gz_gc hf)) (fun y_4 h_3 hf => ?_)
  refine gz_iload_n (pc := 58) dX9_risk_58 rfl rfl ?_
  refine gz_icmp_le (tgt := 70) (pc := 59) dX9_risk_59 rfl (fun c_5 => ?_) (fun c_5 => ?_)
  · have hf := gz_gT hf c_5
    refine gz_iload_n (pc := 70) dX9_risk_70 rfl rfl ?_
    refine gz_fg (lv := [.ref a0, .int x1, .retAddr 0, .int x3, .retAddr 0]) ⟨Or.inr rfl, ⟨Or.inr rfl, ⟨Or.inl rfl, ⟨Or.inr rfl, ⟨Or.inl rfl, trivial⟩⟩⟩⟩⟩ ?_
    exact sX9_risk_71 hk12 a0 x1 x3 x2 h_3 hf
  · have hf := gz_gF hf c_5
    refine gz_iload (pc := 62) dX9_risk_62 rfl ?_
    refine gz_cSI (av := [.int x4]) (st := []) (pc := 64) dX9_risk_64 kl_RX9_193 rfl rfl (Nat.le_of_ble_eq_true rfl) (by show d + 2 + 0 + 1 ≤ d + 3; omega) (sX9_bits (d := d + 2) (gz_gc hf)) (fun y_7 h_6 hf => ?_)
    refine gz_goto (tgt := 71) (pc := 67) dX9_risk_67 rfl ?_
    refine gz_fg (lv := [.ref a0, .int x1, .retAddr 0, .int x3, .retAddr 0]) ⟨Or.inr rfl, ⟨Or.inr rfl, ⟨Or.inl rfl, ⟨Or.inr rfl, ⟨Or.inl rfl, trivial⟩⟩⟩⟩⟩ ?_
    exact sX9_risk_71 hk12 a0 x1 x3 y_7 h_6 hf
def fX9_risk_12  : Nat → Nat → Int32 → Int32 → Int32 → gz_H → Option (Int32 × gz_H)
  | 0, _, _, _, _, _ => none
  | n + 1, a0, x1, x2, x3, h =>
    gz_ck (gz_sh h a0 9 29) <|
    if (h.2.1 a0 3) ≤ x3 then (
     some (x1, h)
    ) else (
     gz_b2 (fX9_alone a0 x3 h) fun y_4 h_3 =>
     gz_b2 (fX9_bits y_4 h_3) fun y_6 h_5 =>
     if y_6 ≤ x2 then (
      gz_ck (gz_sh h_5 a0 9 29) <|
      fX9_risk_50 (fun z0 z1 z2 z3 zh => fX9_risk_12 n z0 z1 z2 z3 zh) a0 (x1 ||| y_4) x2 x3 y_4 a0 (h_5.2.1 a0 11) h_5
     ) else (
      fX9_risk_50 (fun z0 z1 z2 z3 zh => fX9_risk_12 n z0 z1 z2 z3 zh) a0 (x1 ||| y_4) x2 x3 y_4 a0 x3 h_5
     )
    )
set_option maxRecDepth 100000 in
set_option maxHeartbeats 1000000 in
theorem sX9_risk_12 {G : gz_G} {d l0 s0 : Nat} {Q : Int32 → gz_H → Prop} : ∀ (n : Nat) (a0 : Nat) (x1 : Int32) (x2 : Int32) (x3 : Int32) (h : gz_H), gz_g (fX9_risk_12  n a0 x1 x2 x3 h) Q → gz_Ok G mX9_risk (d + 3, l0, s0, 0, 0) 12 [.ref a0, .int x1, .int x2, .int x3, .retAddr 0] [] h (gz_qi Q) := by
  intro n
  induction n with
  | zero => intro a0 x1 x2 x3 h hf; exact False.elim hf
  | succ n ih =>
    intro a0 x1 x2 x3 h hf
    rw [fX9_risk_12] at hf
    refine gz_iload_n (pc := 12) dX9_risk_12 rfl rfl ?_
    refine gz_aload_n (pc := 13) dX9_risk_13 rfl rfl ?_
    refine gz_gk hf (fun c_1 hf => ?_)
    refine gz_getI (pc := 14) dX9_risk_14 fl_RX9_158 rfl (gz_shs c_1) ?_
    refine gz_icmp_ge (tgt := 78) (pc := 17) dX9_risk_17 rfl (fun c_2 => ?_) (fun c_2 => ?_)
    · have hf := gz_gT hf c_2
      refine gz_iload_n (pc := 78) dX9_risk_78 rfl rfl ?_
      exact gz_irt (pc := 79) dX9_risk_79 rfl rfl hf
    · have hf := gz_gF hf c_2
      refine gz_aload_n (pc := 20) dX9_risk_20 rfl rfl ?_
      refine gz_iload_n (pc := 21) dX9_risk_21 rfl rfl ?_
      refine gz_cVI (av := [.int x3]) (st := []) (pc := 22) dX9_risk_22 kl_RX9_216 rfl (gz_shs c_1) rfl rfl (Nat.le_of_ble_eq_true rfl) (by show d + 0 + 2 + 1 ≤ d + 3; omega) (sX9_alone (d := d + 0) (gz_gc hf)) (fun y_4 h_3 hf => ?_)
      refine gz_istore (lv := [.ref a0, .int x1, .int x2, .int x3, .int y_4]) (pc := 25) dX9_risk_25 (by decide) rfl ?_
      refine gz_iload_n (pc := 27) dX9_risk_27 rfl rfl ?_
      refine gz_iload (pc := 28) dX9_risk_28 rfl ?_
      refine gz_ior (pc := 30) dX9_risk_30 ?_
      refine gz_istore_n (lv := [.ref a0, .int (x1 ||| y_4), .int x2, .int x3, .int y_4]) (pc := 31) dX9_risk_31 rfl (by decide) rfl ?_
      refine gz_aload_n (pc := 32) dX9_risk_32 rfl rfl ?_
      refine gz_iload (pc := 33) dX9_risk_33 rfl ?_
      refine gz_cSI (av := [.int y_4]) (st := [.ref a0]) (pc := 35) dX9_risk_35 kl_RX9_193 rfl rfl (Nat.le_of_ble_eq_true rfl) (by show d + 2 + 0 + 1 ≤ d + 3; omega) (sX9_bits (d := d + 2) (gz_gc hf)) (fun y_6 h_5 hf => ?_)
      refine gz_iload_n (pc := 38) dX9_risk_38 rfl rfl ?_
      refine gz_icmp_le (tgt := 46) (pc := 39) dX9_risk_39 rfl (fun c_7 => ?_) (fun c_7 => ?_)
      · have hf := gz_gT hf c_7
        refine gz_aload_n (pc := 46) dX9_risk_46 rfl rfl ?_
        refine gz_gk hf (fun c_8 hf => ?_)
        refine gz_getI (pc := 47) dX9_risk_47 fl_RX9_69 rfl (gz_shs c_8) ?_
        exact sX9_risk_50 ih a0 (x1 ||| y_4) x2 x3 y_4 a0 (h_5.2.1 a0 11) h_5 hf
      · have hf := gz_gF hf c_7
        refine gz_iload_n (pc := 42) dX9_risk_42 rfl rfl ?_
        refine gz_goto (tgt := 50) (pc := 43) dX9_risk_43 rfl ?_
        exact sX9_risk_50 ih a0 (x1 ||| y_4) x2 x3 y_4 a0 x3 h_5 hf
def fX9_risk_0  (a0 : Nat) (h : gz_H) : Option (Int32 × gz_H) :=
    gz_ck (gz_sh h a0 9 29) <|
    gz_lt (uI h a0 11 (-9 : Int32)) fun h_2 =>
    fX9_risk_12 gz_fu a0 (0 : Int32) (0 : Int32) (0 : Int32) h_2
set_option maxRecDepth 100000 in
set_option maxHeartbeats 1000000 in
theorem sX9_risk_0 {G : gz_G} {d l0 s0 : Nat} {Q : Int32 → gz_H → Prop} (a0 : Nat) (h : gz_H) (hf : gz_g (fX9_risk_0  a0 h) Q) : gz_Ok G mX9_risk (d + 3, l0, s0, 0, 0) 0 [.ref a0, .retAddr 0, .retAddr 0, .retAddr 0, .retAddr 0] [] h (gz_qi Q) := by
  unfold fX9_risk_0 at hf
  refine gz_iconst (v := (0 : Int32)) (pc := 0) dX9_risk_0 rfl ?_
  refine gz_istore_n (lv := [.ref a0, .int (0 : Int32), .retAddr 0, .retAddr 0, .retAddr 0]) (pc := 1) dX9_risk_1 rfl (by decide) rfl ?_
  refine gz_iconst (v := (0 : Int32)) (pc := 2) dX9_risk_2 rfl ?_
  refine gz_istore_n (lv := [.ref a0, .int (0 : Int32), .int (0 : Int32), .retAddr 0, .retAddr 0]) (pc := 3) dX9_risk_3 rfl (by decide) rfl ?_
  refine gz_aload_n (pc := 4) dX9_risk_4 rfl rfl ?_
  refine gz_bipush (v := (-9 : Int32)) (pc := 5) dX9_risk_5 rfl ?_
  refine gz_gk hf (fun c_1 hf => ?_)
  refine gz_putI (pc := 7) dX9_risk_7 fw_X9_risk_69 rfl rfl rfl (gz_shs c_1) ?_
  refine gz_nmH (fun h_2 eh_2 => ?_)
  have hf := gz_gl eh_2 hf
  refine gz_iconst (v := (0 : Int32)) (pc := 10) dX9_risk_10 rfl ?_
  refine gz_istore_n (lv := [.ref a0, .int (0 : Int32), .int (0 : Int32), .int (0 : Int32), .retAddr 0]) (pc := 11) dX9_risk_11 rfl (by decide) rfl ?_
  exact sX9_risk_12 gz_fu a0 (0 : Int32) (0 : Int32) (0 : Int32) h_2 hf
def fX9_risk (a0 : Nat) (h : gz_H) : Option (Int32 × gz_H) := fX9_risk_0 a0 h
theorem sX9_risk {G : gz_G} {d : Nat} {a0 : Nat} {h : gz_H} {Q : Int32 → gz_H → Prop} (hf : gz_g (fX9_risk a0 h) Q) : gz_Cl G mX9_risk (d + 3) 0 0 [.ref a0] h (gz_qi Q) := gz_cl_of (lo := [.ref a0, .retAddr 0, .retAddr 0, .retAddr 0, .retAddr 0]) (by decide) rfl rfl (Nat.le_of_ble_eq_true rfl) (sX9_risk_0 a0 h hf)
theorem dX9_holdersOf_0 : decode cX9_holdersOf 0 = .ok (.iconst 0, 1) := by decide +kernel
theorem dX9_holdersOf_1 : decode cX9_holdersOf 1 = .ok (.istore_n 2, 1) := by decide +kernel
theorem dX9_holdersOf_2 : decode cX9_holdersOf 2 = .ok (.iconst 0, 1) := by decide +kernel
theorem dX9_holdersOf_3 : decode cX9_holdersOf 3 = .ok (.istore_n 3, 1) := by decide +kernel
theorem dX9_holdersOf_4 : decode cX9_holdersOf 4 = .ok (.iload_n 3, 1) := by decide +kernel
theorem dX9_holdersOf_5 : decode cX9_holdersOf 5 = .ok (.aload_n 0, 1) := by decide +kernel
theorem dX9_holdersOf_6 : decode cX9_holdersOf 6 = .ok (.getfield 158, 3) := by decide +kernel
theorem dX9_holdersOf_9 : decode cX9_holdersOf 9 = .ok (.if_icmp .ge 21, 3) := by decide +kernel
theorem dX9_holdersOf_12 : decode cX9_holdersOf 12 = .ok (.iload_n 2, 1) := by decide +kernel
theorem dX9_holdersOf_13 : decode cX9_holdersOf 13 = .ok (.aload_n 0, 1) := by decide +kernel
theorem dX9_holdersOf_14 : decode cX9_holdersOf 14 = .ok (.iload_n 3, 1) := by decide +kernel
theorem dX9_holdersOf_15 : decode cX9_holdersOf 15 = .ok (.invokevirtual 187, 3) := by decide +kernel
theorem dX9_holdersOf_18 : decode cX9_holdersOf 18 = .ok (.iload_n 1, 1) := by decide +kernel
theorem dX9_holdersOf_19 : decode cX9_holdersOf 19 = .ok (.ishr, 1) := by decide +kernel
theorem dX9_holdersOf_20 : decode cX9_holdersOf 20 = .ok (.iconst 1, 1) := by decide +kernel
theorem dX9_holdersOf_21 : decode cX9_holdersOf 21 = .ok (.iand, 1) := by decide +kernel
theorem dX9_holdersOf_22 : decode cX9_holdersOf 22 = .ok (.iadd, 1) := by decide +kernel
theorem dX9_holdersOf_23 : decode cX9_holdersOf 23 = .ok (.istore_n 2, 1) := by decide +kernel
theorem dX9_holdersOf_24 : decode cX9_holdersOf 24 = .ok (.iinc 3 1, 3) := by decide +kernel
theorem dX9_holdersOf_27 : decode cX9_holdersOf 27 = .ok (.goto (-23), 3) := by decide +kernel
theorem dX9_holdersOf_30 : decode cX9_holdersOf 30 = .ok (.iload_n 2, 1) := by decide +kernel
theorem dX9_holdersOf_31 : decode cX9_holdersOf 31 = .ok (.ireturn, 1) := by decide +kernel
def fX9_holdersOf_4  : Nat → Nat → Int32 → Int32 → Int32 → gz_H → Option (Int32 × gz_H)
  | 0, _, _, _, _, _ => none
  | n + 1, a0, x1, x2, x3, h =>
    gz_ck (gz_sh h a0 9 29) <|
    if (h.2.1 a0 3) ≤ x3 then (
     some (x2, h)
    ) else (
     gz_b2 (fX9_heldBy a0 x3 h) fun y_4 h_3 =>
     fX9_holdersOf_4 n a0 x1 (x2 + ((y_4 >>> (x1 &&& 31)) &&& (1 : Int32))) (x3 + 1) h_3
    )
set_option maxRecDepth 100000 in
set_option maxHeartbeats 1000000 in
theorem sX9_holdersOf_4 {G : gz_G} {d l0 s0 : Nat} {Q : Int32 → gz_H → Prop} : ∀ (n : Nat) (a0 : Nat) (x1 : Int32) (x2 : Int32) (x3 : Int32) (h : gz_H), gz_g (fX9_holdersOf_4  n a0 x1 x2 x3 h) Q → gz_Ok G mX9_holdersOf (d + 2, l0, s0, 0, 0) 4 [.ref a0, .int x1, .int x2, .int x3] [] h (gz_qi Q) := by
  intro n
  induction n with
  | zero => intro a0 x1 x2 x3 h hf; exact False.elim hf
  | succ n ih =>
    intro a0 x1 x2 x3 h hf
    rw [fX9_holdersOf_4] at hf
    refine gz_iload_n (pc := 4) dX9_holdersOf_4 rfl rfl ?_
    refine gz_aload_n (pc := 5) dX9_holdersOf_5 rfl rfl ?_
    refine gz_gk hf (fun c_1 hf => ?_)
    refine gz_getI (pc := 6) dX9_holdersOf_6 fl_RX9_158 rfl (gz_shs c_1) ?_
    refine gz_icmp_ge (tgt := 30) (pc := 9) dX9_holdersOf_9 rfl (fun c_2 => ?_) (fun c_2 => ?_)
    · have hf := gz_gT hf c_2
      refine gz_iload_n (pc := 30) dX9_holdersOf_30 rfl rfl ?_
      exact gz_irt (pc := 31) dX9_holdersOf_31 rfl rfl hf
    · have hf := gz_gF hf c_2
      refine gz_iload_n (pc := 12) dX9_holdersOf_12 rfl rfl ?_
      refine gz_aload_n (pc := 13) dX9_holdersOf_13 rfl rfl ?_
      refine gz_iload_n (pc := 14) dX9_holdersOf_14 rfl rfl ?_
      refine gz_cVI (av := [.int x3]) (st := [.int x2]) (pc := 15) dX9_holdersOf_15 kl_RX9_187 rfl (gz_shs c_1) rfl rfl (Nat.le_of_ble_eq_true rfl) (by show d + 0 + 1 + 1 ≤ d + 2; omega) (sX9_heldBy (d := d + 0) (gz_gc hf)) (fun y_4 h_3 hf => ?_)
      refine gz_iload_n (pc := 18) dX9_holdersOf_18 rfl rfl ?_
      refine gz_ishr (pc := 19) dX9_holdersOf_19 ?_
      refine gz_iconst (v := (1 : Int32)) (pc := 20) dX9_holdersOf_20 rfl ?_
      refine gz_iand (pc := 21) dX9_holdersOf_21 ?_
      refine gz_iadd (pc := 22) dX9_holdersOf_22 ?_
      refine gz_istore_n (lv := [.ref a0, .int x1, .int (x2 + ((y_4 >>> (x1 &&& 31)) &&& (1 : Int32))), .int x3]) (pc := 23) dX9_holdersOf_23 rfl (by decide) rfl ?_
      refine gz_iinc (v := x3 + 1) (lv := [.ref a0, .int x1, .int (x2 + ((y_4 >>> (x1 &&& 31)) &&& (1 : Int32))), .int (x3 + 1)]) (pc := 24) dX9_holdersOf_24 rfl rfl (by decide) rfl ?_
      refine gz_goto (tgt := 4) (pc := 27) dX9_holdersOf_27 rfl ?_
      exact ih a0 x1 (x2 + ((y_4 >>> (x1 &&& 31)) &&& (1 : Int32))) (x3 + 1) h_3 hf
def fX9_holdersOf_0  (a0 : Nat) (x1 : Int32) (h : gz_H) : Option (Int32 × gz_H) :=
    fX9_holdersOf_4 gz_fu a0 x1 (0 : Int32) (0 : Int32) h
set_option maxRecDepth 100000 in
set_option maxHeartbeats 1000000 in
theorem sX9_holdersOf_0 {G : gz_G} {d l0 s0 : Nat} {Q : Int32 → gz_H → Prop} (a0 : Nat) (x1 : Int32) (h : gz_H) (hf : gz_g (fX9_holdersOf_0  a0 x1 h) Q) : gz_Ok G mX9_holdersOf (d + 2, l0, s0, 0, 0) 0 [.ref a0, .int x1, .retAddr 0, .retAddr 0] [] h (gz_qi Q) := by
  unfold fX9_holdersOf_0 at hf
  refine gz_iconst (v := (0 : Int32)) (pc := 0) dX9_holdersOf_0 rfl ?_
  refine gz_istore_n (lv := [.ref a0, .int x1, .int (0 : Int32), .retAddr 0]) (pc := 1) dX9_holdersOf_1 rfl (by decide) rfl ?_
  refine gz_iconst (v := (0 : Int32)) (pc := 2) dX9_holdersOf_2 rfl ?_
  refine gz_istore_n (lv := [.ref a0, .int x1, .int (0 : Int32), .int (0 : Int32)]) (pc := 3) dX9_holdersOf_3 rfl (by decide) rfl ?_
  exact sX9_holdersOf_4 gz_fu a0 x1 (0 : Int32) (0 : Int32) h hf
def fX9_holdersOf (a0 : Nat) (x1 : Int32) (h : gz_H) : Option (Int32 × gz_H) := fX9_holdersOf_0 a0 x1 h
theorem sX9_holdersOf {G : gz_G} {d : Nat} {a0 : Nat} {x1 : Int32} {h : gz_H} {Q : Int32 → gz_H → Prop} (hf : gz_g (fX9_holdersOf a0 x1 h) Q) : gz_Cl G mX9_holdersOf (d + 2) 0 0 [.ref a0, .int x1] h (gz_qi Q) := gz_cl_of (lo := [.ref a0, .int x1, .retAddr 0, .retAddr 0]) (by decide) rfl rfl (Nat.le_of_ble_eq_true rfl) (sX9_holdersOf_0 a0 x1 h hf)
theorem dX9_missing_0 : decode cX9_missing 0 = .ok (.iconst 0, 1) := by decide +kernel
theorem dX9_missing_1 : decode cX9_missing 1 = .ok (.istore_n 2, 1) := by decide +kernel
theorem dX9_missing_2 : decode cX9_missing 2 = .ok (.iconst 0, 1) := by decide +kernel
theorem dX9_missing_3 : decode cX9_missing 3 = .ok (.istore_n 3, 1) := by decide +kernel
theorem dX9_missing_4 : decode cX9_missing 4 = .ok (.iload_n 3, 1) := by decide +kernel
theorem dX9_missing_5 : decode cX9_missing 5 = .ok (.aload_n 0, 1) := by decide +kernel
theorem dX9_missing_6 : decode cX9_missing 6 = .ok (.getfield 155, 3) := by decide +kernel
theorem dX9_missing_9 : decode cX9_missing 9 = .ok (.if_icmp .ge 41, 3) := by decide +kernel
theorem dX9_missing_12 : decode cX9_missing 12 = .ok (.aload_n 0, 1) := by decide +kernel
theorem dX9_missing_13 : decode cX9_missing 13 = .ok (.iload_n 3, 1) := by decide +kernel
theorem dX9_missing_14 : decode cX9_missing 14 = .ok (.invokevirtual 269, 3) := by decide +kernel
theorem dX9_missing_17 : decode cX9_missing 17 = .ok (.istore 4, 2) := by decide +kernel
theorem dX9_missing_19 : decode cX9_missing 19 = .ok (.iload_n 2, 1) := by decide +kernel
theorem dX9_missing_20 : decode cX9_missing 20 = .ok (.iload_n 1, 1) := by decide +kernel
theorem dX9_missing_21 : decode cX9_missing 21 = .ok (.iload_n 3, 1) := by decide +kernel
theorem dX9_missing_22 : decode cX9_missing 22 = .ok (.invokestatic 142, 3) := by decide +kernel
theorem dX9_missing_25 : decode cX9_missing 25 = .ok (.ifCond .eq 16, 3) := by decide +kernel
theorem dX9_missing_28 : decode cX9_missing 28 = .ok (.iload 4, 2) := by decide +kernel
theorem dX9_missing_30 : decode cX9_missing 30 = .ok (.iconst 2, 1) := by decide +kernel
theorem dX9_missing_31 : decode cX9_missing 31 = .ok (.if_icmp .ge 10, 3) := by decide +kernel
theorem dX9_missing_34 : decode cX9_missing 34 = .ok (.iconst 2, 1) := by decide +kernel
theorem dX9_missing_35 : decode cX9_missing 35 = .ok (.iload 4, 2) := by decide +kernel
theorem dX9_missing_37 : decode cX9_missing 37 = .ok (.isub, 1) := by decide +kernel
theorem dX9_missing_38 : decode cX9_missing 38 = .ok (.goto 4, 3) := by decide +kernel
theorem dX9_missing_41 : decode cX9_missing 41 = .ok (.iconst 0, 1) := by decide +kernel
theorem dX9_missing_42 : decode cX9_missing 42 = .ok (.iadd, 1) := by decide +kernel
theorem dX9_missing_43 : decode cX9_missing 43 = .ok (.istore_n 2, 1) := by decide +kernel
theorem dX9_missing_44 : decode cX9_missing 44 = .ok (.iinc 3 1, 3) := by decide +kernel
theorem dX9_missing_47 : decode cX9_missing 47 = .ok (.goto (-43), 3) := by decide +kernel
theorem dX9_missing_50 : decode cX9_missing 50 = .ok (.iload_n 2, 1) := by decide +kernel
theorem dX9_missing_51 : decode cX9_missing 51 = .ok (.ireturn, 1) := by decide +kernel
def fX9_missing_42 (k4 : Nat → Int32 → Int32 → Int32 → gz_H → Option (Int32 × gz_H)) (a0 : Nat) (x1 : Int32) (x3 : Int32) (w0 : Int32) (w1 : Int32) (h : gz_H) : Option (Int32 × gz_H) :=
    k4 a0 x1 (w0 + w1) (x3 + 1) h
set_option maxRecDepth 100000 in
set_option maxHeartbeats 1000000 in
theorem sX9_missing_42 {G : gz_G} {d l0 s0 : Nat} {Q : Int32 → gz_H → Prop} {k4 : Nat → Int32 → Int32 → Int32 → gz_H → Option (Int32 × gz_H)} (hk4 : ∀ (a0 : Nat) (x1 : Int32) (x2 : Int32) (x3 : Int32) (h : gz_H), gz_g (k4 a0 x1 x2 x3 h) Q → gz_Ok G mX9_missing (d + 3, l0, s0, 0, 0) 4 [.ref a0, .int x1, .int x2, .int x3, .retAddr 0] [] h (gz_qi Q)) (a0 : Nat) (x1 : Int32) (x3 : Int32) (w0 : Int32) (w1 : Int32) (h : gz_H) (hf : gz_g (fX9_missing_42 k4 a0 x1 x3 w0 w1 h) Q) : gz_Ok G mX9_missing (d + 3, l0, s0, 0, 0) 42 [.ref a0, .int x1, .retAddr 0, .int x3, .retAddr 0] [.int w1, .int w0] h (gz_qi Q) := by
  unfold fX9_missing_42 at hf
  refine gz_iadd (pc := 42) dX9_missing_42 ?_
  refine gz_istore_n (lv := [.ref a0, .int x1, .int (w0 + w1), .int x3, .retAddr 0]) (pc := 43) dX9_missing_43 rfl (by decide) rfl ?_
  refine gz_iinc (v := x3 + 1) (lv := [.ref a0, .int x1, .int (w0 + w1), .int (x3 + 1), .retAddr 0]) (pc := 44) dX9_missing_44 rfl rfl (by decide) rfl ?_
  refine gz_goto (tgt := 4) (pc := 47) dX9_missing_47 rfl ?_
  exact hk4 a0 x1 (w0 + w1) (x3 + 1) h hf
def fX9_missing_41 (k4 : Nat → Int32 → Int32 → Int32 → gz_H → Option (Int32 × gz_H)) (a0 : Nat) (x1 : Int32) (x3 : Int32) (w0 : Int32) (h : gz_H) : Option (Int32 × gz_H) :=
    fX9_missing_42 k4 a0 x1 x3 w0 (0 : Int32) h
set_option maxRecDepth 100000 in
set_option maxHeartbeats 1000000 in
theorem sX9_missing_41 {G : gz_G} {d l0 s0 : Nat} {Q : Int32 → gz_H → Prop} {k4 : Nat → Int32 → Int32 → Int32 → gz_H → Option (Int32 × gz_H)} (hk4 : ∀ (a0 : Nat) (x1 : Int32) (x2 : Int32) (x3 : Int32) (h : gz_H), gz_g (k4 a0 x1 x2 x3 h) Q → gz_Ok G mX9_missing (d + 3, l0, s0, 0, 0) 4 [.ref a0, .int x1, .int x2, .int x3, .retAddr 0] [] h (gz_qi Q)) (a0 : Nat) (x1 : Int32) (x3 : Int32) (w0 : Int32) (h : gz_H) (hf : gz_g (fX9_missing_41 k4 a0 x1 x3 w0 h) Q) : gz_Ok G mX9_missing (d + 3, l0, s0, 0, 0) 41 [.ref a0, .int x1, .retAddr 0, .int x3, .retAddr 0] [.int w0] h (gz_qi Q) := by
  unfold fX9_missing_41 at hf
  refine gz_iconst (v := (0 : Int32)) (pc := 41) dX9_missing_41 rfl ?_
  exact sX9_missing_42 hk4 a0 x1 x3 w0 (0 : Int32) h hf
def fX9_missing_4  : Nat → Nat → Int32 → Int32 → Int32 → gz_H → Option (Int32 × gz_H)
  | 0, _, _, _, _, _ => none
  | n + 1, a0, x1, x2, x3, h =>
    gz_ck (gz_sh h a0 9 29) <|
    if (h.2.1 a0 1) ≤ x3 then (
     some (x2, h)
    ) else (
     gz_b2 (fX9_holdersOf a0 x3 h) fun y_4 h_3 =>
     gz_b2 (fX9_has x1 x3 h_3) fun y_6 h_5 =>
     if y_6 = 0 then (
      fX9_missing_41 (fun z0 z1 z2 z3 zh => fX9_missing_4 n z0 z1 z2 z3 zh) a0 x1 x3 x2 h_5
     ) else (
      if (2 : Int32) ≤ y_4 then (
       fX9_missing_41 (fun z0 z1 z2 z3 zh => fX9_missing_4 n z0 z1 z2 z3 zh) a0 x1 x3 x2 h_5
      ) else (
       fX9_missing_42 (fun z0 z1 z2 z3 zh => fX9_missing_4 n z0 z1 z2 z3 zh) a0 x1 x3 x2 ((2 : Int32) - y_4) h_5
      )
     )
    )
set_option maxRecDepth 100000 in
set_option maxHeartbeats 1000000 in
theorem sX9_missing_4 {G : gz_G} {d l0 s0 : Nat} {Q : Int32 → gz_H → Prop} : ∀ (n : Nat) (a0 : Nat) (x1 : Int32) (x2 : Int32) (x3 : Int32) (h : gz_H), gz_g (fX9_missing_4  n a0 x1 x2 x3 h) Q → gz_Ok G mX9_missing (d + 3, l0, s0, 0, 0) 4 [.ref a0, .int x1, .int x2, .int x3, .retAddr 0] [] h (gz_qi Q) := by
  intro n
  induction n with
  | zero => intro a0 x1 x2 x3 h hf; exact False.elim hf
  | succ n ih =>
    intro a0 x1 x2 x3 h hf
    rw [fX9_missing_4] at hf
    refine gz_iload_n (pc := 4) dX9_missing_4 rfl rfl ?_
    refine gz_aload_n (pc := 5) dX9_missing_5 rfl rfl ?_
    refine gz_gk hf (fun c_1 hf => ?_)
    refine gz_getI (pc := 6) dX9_missing_6 fl_RX9_155 rfl (gz_shs c_1) ?_
    refine gz_icmp_ge (tgt := 50) (pc := 9) dX9_missing_9 rfl (fun c_2 => ?_) (fun c_2 => ?_)
    · have hf := gz_gT hf c_2
      refine gz_iload_n (pc := 50) dX9_missing_50 rfl rfl ?_
      exact gz_irt (pc := 51) dX9_missing_51 rfl rfl hf
    · have hf := gz_gF hf c_2
      refine gz_aload_n (pc := 12) dX9_missing_12 rfl rfl ?_
      refine gz_iload_n (pc := 13) dX9_missing_13 rfl rfl ?_
      refine gz_cVI (av := [.int x3]) (st := []) (pc := 14) dX9_missing_14 kl_RX9_269 rfl (gz_shs c_1) rfl rfl (Nat.le_of_ble_eq_true rfl) (by show d + 0 + 2 + 1 ≤ d + 3; omega) (sX9_holdersOf (d := d + 0) (gz_gc hf)) (fun y_4 h_3 hf => ?_)
      refine gz_istore (lv := [.ref a0, .int x1, .int x2, .int x3, .int y_4]) (pc := 17) dX9_missing_17 (by decide) rfl ?_
      refine gz_iload_n (pc := 19) dX9_missing_19 rfl rfl ?_
      refine gz_iload_n (pc := 20) dX9_missing_20 rfl rfl ?_
      refine gz_iload_n (pc := 21) dX9_missing_21 rfl rfl ?_
      refine gz_cSI (av := [.int x1, .int x3]) (st := [.int x2]) (pc := 22) dX9_missing_22 kl_RX9_142 rfl rfl (Nat.le_of_ble_eq_true rfl) (by show d + 2 + 0 + 1 ≤ d + 3; omega) (sX9_has (d := d + 2) (gz_gc hf)) (fun y_6 h_5 hf => ?_)
      refine gz_if_eq (tgt := 41) (pc := 25) dX9_missing_25 rfl (fun c_7 => ?_) (fun c_7 => ?_)
      · have hf := gz_gT hf c_7
        refine gz_fg (lv := [.ref a0, .int x1, .retAddr 0, .int x3, .retAddr 0]) ⟨Or.inr rfl, ⟨Or.inr rfl, ⟨Or.inl rfl, ⟨Or.inr rfl, ⟨Or.inl rfl, trivial⟩⟩⟩⟩⟩ ?_
        exact sX9_missing_41 ih a0 x1 x3 x2 h_5 hf
      · have hf := gz_gF hf c_7
        refine gz_iload (pc := 28) dX9_missing_28 rfl ?_
        refine gz_iconst (v := (2 : Int32)) (pc := 30) dX9_missing_30 rfl ?_
        refine gz_icmp_ge (tgt := 41) (pc := 31) dX9_missing_31 rfl (fun c_8 => ?_) (fun c_8 => ?_)
        · have hf := gz_gT hf c_8
          refine gz_fg (lv := [.ref a0, .int x1, .retAddr 0, .int x3, .retAddr 0]) ⟨Or.inr rfl, ⟨Or.inr rfl, ⟨Or.inl rfl, ⟨Or.inr rfl, ⟨Or.inl rfl, trivial⟩⟩⟩⟩⟩ ?_
          exact sX9_missing_41 ih a0 x1 x3 x2 h_5 hf
        · have hf := gz_gF hf c_8
          refine gz_iconst (v := (2 : Int32)) (pc := 34) dX9_missing_34 rfl ?_
          refine gz_iload (pc := 35) dX9_missing_35 rfl ?_
          refine gz_isub (pc := 37) dX9_missing_37 ?_
          refine gz_goto (tgt := 42) (pc := 38) dX9_missing_38 rfl ?_
          refine gz_fg (lv := [.ref a0, .int x1, .retAddr 0, .int x3, .retAddr 0]) ⟨Or.inr rfl, ⟨Or.inr rfl, ⟨Or.inl rfl, ⟨Or.inr rfl, ⟨Or.inl rfl, trivial⟩⟩⟩⟩⟩ ?_
          exact sX9_missing_42 ih a0 x1 x3 x2 ((2 : Int32) - y_4) h_5 hf
def fX9_missing_0  (a0 : Nat) (x1 : Int32) (h : gz_H) : Option (Int32 × gz_H) :=
    fX9_missing_4 gz_fu a0 x1 (0 : Int32) (0 : Int32) h
set_option maxRecDepth 100000 in
set_option maxHeartbeats 1000000 in
theorem sX9_missing_0 {G : gz_G} {d l0 s0 : Nat} {Q : Int32 → gz_H → Prop} (a0 : Nat) (x1 : Int32) (h : gz_H) (hf : gz_g (fX9_missing_0  a0 x1 h) Q) : gz_Ok G mX9_missing (d + 3, l0, s0, 0, 0) 0 [.ref a0, .int x1, .retAddr 0, .retAddr 0, .retAddr 0] [] h (gz_qi Q) := by
  unfold fX9_missing_0 at hf
  refine gz_iconst (v := (0 : Int32)) (pc := 0) dX9_missing_0 rfl ?_
  refine gz_istore_n (lv := [.ref a0, .int x1, .int (0 : Int32), .retAddr 0, .retAddr 0]) (pc := 1) dX9_missing_1 rfl (by decide) rfl ?_
  refine gz_iconst (v := (0 : Int32)) (pc := 2) dX9_missing_2 rfl ?_
  refine gz_istore_n (lv := [.ref a0, .int x1, .int (0 : Int32), .int (0 : Int32), .retAddr 0]) (pc := 3) dX9_missing_3 rfl (by decide) rfl ?_
  exact sX9_missing_4 gz_fu a0 x1 (0 : Int32) (0 : Int32) h hf
def fX9_missing (a0 : Nat) (x1 : Int32) (h : gz_H) : Option (Int32 × gz_H) := fX9_missing_0 a0 x1 h
theorem sX9_missing {G : gz_G} {d : Nat} {a0 : Nat} {x1 : Int32} {h : gz_H} {Q : Int32 → gz_H → Prop} (hf : gz_g (fX9_missing a0 x1 h) Q) : gz_Cl G mX9_missing (d + 3) 0 0 [.ref a0, .int x1] h (gz_qi Q) := gz_cl_of (lo := [.ref a0, .int x1, .retAddr 0, .retAddr 0, .retAddr 0]) (by decide) rfl rfl (Nat.le_of_ble_eq_true rfl) (sX9_missing_0 a0 x1 h hf)
theorem dX9_room_0 : decode cX9_room 0 = .ok (.iconst 0, 1) := by decide +kernel
theorem dX9_room_1 : decode cX9_room 1 = .ok (.istore_n 2, 1) := by decide +kernel
theorem dX9_room_2 : decode cX9_room 2 = .ok (.iconst 0, 1) := by decide +kernel
theorem dX9_room_3 : decode cX9_room 3 = .ok (.istore_n 3, 1) := by decide +kernel
theorem dX9_room_4 : decode cX9_room 4 = .ok (.iload_n 3, 1) := by decide +kernel
theorem dX9_room_5 : decode cX9_room 5 = .ok (.aload_n 0, 1) := by decide +kernel
theorem dX9_room_6 : decode cX9_room 6 = .ok (.getfield 158, 3) := by decide +kernel
theorem dX9_room_9 : decode cX9_room 9 = .ok (.if_icmp .ge 69, 3) := by decide +kernel
theorem dX9_room_12 : decode cX9_room 12 = .ok (.aload_n 0, 1) := by decide +kernel
theorem dX9_room_13 : decode cX9_room 13 = .ok (.getfield 19, 3) := by decide +kernel
theorem dX9_room_16 : decode cX9_room 16 = .ok (.iload_n 3, 1) := by decide +kernel
theorem dX9_room_17 : decode cX9_room 17 = .ok (.iaload, 1) := by decide +kernel
theorem dX9_room_18 : decode cX9_room 18 = .ok (.aload_n 0, 1) := by decide +kernel
theorem dX9_room_19 : decode cX9_room 19 = .ok (.getfield 7, 3) := by decide +kernel
theorem dX9_room_22 : decode cX9_room 22 = .ok (.iconst 2, 1) := by decide +kernel
theorem dX9_room_23 : decode cX9_room 23 = .ok (.iload_n 3, 1) := by decide +kernel
theorem dX9_room_24 : decode cX9_room 24 = .ok (.iadd, 1) := by decide +kernel
theorem dX9_room_25 : decode cX9_room 25 = .ok (.iaload, 1) := by decide +kernel
theorem dX9_room_26 : decode cX9_room 26 = .ok (.isub, 1) := by decide +kernel
theorem dX9_room_27 : decode cX9_room 27 = .ok (.istore 4, 2) := by decide +kernel
theorem dX9_room_29 : decode cX9_room 29 = .ok (.iload_n 1, 1) := by decide +kernel
theorem dX9_room_30 : decode cX9_room 30 = .ok (.aload_n 0, 1) := by decide +kernel
theorem dX9_room_31 : decode cX9_room 31 = .ok (.iload_n 3, 1) := by decide +kernel
theorem dX9_room_32 : decode cX9_room 32 = .ok (.invokevirtual 187, 3) := by decide +kernel
theorem dX9_room_35 : decode cX9_room 35 = .ok (.iconst (-1), 1) := by decide +kernel
theorem dX9_room_36 : decode cX9_room 36 = .ok (.ixor, 1) := by decide +kernel
theorem dX9_room_37 : decode cX9_room 37 = .ok (.iand, 1) := by decide +kernel
theorem dX9_room_38 : decode cX9_room 38 = .ok (.invokestatic 193, 3) := by decide +kernel
theorem dX9_room_41 : decode cX9_room 41 = .ok (.istore 5, 2) := by decide +kernel
theorem dX9_room_43 : decode cX9_room 43 = .ok (.iload_n 2, 1) := by decide +kernel
theorem dX9_room_44 : decode cX9_room 44 = .ok (.aload_n 0, 1) := by decide +kernel
theorem dX9_room_45 : decode cX9_room 45 = .ok (.iload_n 3, 1) := by decide +kernel
theorem dX9_room_46 : decode cX9_room 46 = .ok (.invokevirtual 177, 3) := by decide +kernel
theorem dX9_room_49 : decode cX9_room 49 = .ok (.ifCond .eq 7, 3) := by decide +kernel
theorem dX9_room_52 : decode cX9_room 52 = .ok (.iconst 0, 1) := by decide +kernel
theorem dX9_room_53 : decode cX9_room 53 = .ok (.goto 17, 3) := by decide +kernel
theorem dX9_room_56 : decode cX9_room 56 = .ok (.iload 4, 2) := by decide +kernel
theorem dX9_room_58 : decode cX9_room 58 = .ok (.iload 5, 2) := by decide +kernel
theorem dX9_room_60 : decode cX9_room 60 = .ok (.if_icmp .ge 8, 3) := by decide +kernel
theorem dX9_room_63 : decode cX9_room 63 = .ok (.iload 4, 2) := by decide +kernel
theorem dX9_room_65 : decode cX9_room 65 = .ok (.goto 5, 3) := by decide +kernel
theorem dX9_room_68 : decode cX9_room 68 = .ok (.iload 5, 2) := by decide +kernel
theorem dX9_room_70 : decode cX9_room 70 = .ok (.iadd, 1) := by decide +kernel
theorem dX9_room_71 : decode cX9_room 71 = .ok (.istore_n 2, 1) := by decide +kernel
theorem dX9_room_72 : decode cX9_room 72 = .ok (.iinc 3 1, 3) := by decide +kernel
theorem dX9_room_75 : decode cX9_room 75 = .ok (.goto (-71), 3) := by decide +kernel
theorem dX9_room_78 : decode cX9_room 78 = .ok (.iload_n 2, 1) := by decide +kernel
theorem dX9_room_79 : decode cX9_room 79 = .ok (.ireturn, 1) := by decide +kernel
def fX9_room_70 (k4 : Nat → Int32 → Int32 → Int32 → gz_H → Option (Int32 × gz_H)) (a0 : Nat) (x1 : Int32) (x3 : Int32) (w0 : Int32) (w1 : Int32) (h : gz_H) : Option (Int32 × gz_H) :=
    k4 a0 x1 (w0 + w1) (x3 + 1) h
set_option maxRecDepth 100000 in
set_option maxHeartbeats 1000000 in
theorem sX9_room_70 {G : gz_G} {d l0 s0 : Nat} {Q : Int32 → gz_H → Prop} {k4 : Nat → Int32 → Int32 → Int32 → gz_H → Option (Int32 × gz_H)} (hk4 : ∀ (a0 : Nat) (x1 : Int32) (x2 : Int32) (x3 : Int32) (h : gz_H), gz_g (k4 a0 x1 x2 x3 h) Q → gz_Ok G mX9_room (d + 2, l0, s0, 0, 0) 4 [.ref a0, .int x1, .int x2, .int x3, .retAddr 0, .retAddr 0] [] h (gz_qi Q)) (a0 : Nat) (x1 : Int32) (x3 : Int32) (w0 : Int32) (w1 : Int32) (h : gz_H) (hf : gz_g (fX9_room_70 k4 a0 x1 x3 w0 w1 h) Q) : gz_Ok G mX9_room (d + 2, l0, s0, 0, 0) 70 [.ref a0, .int x1, .retAddr 0, .int x3, .retAddr 0, .retAddr 0] [.int w1, .int w0] h (gz_qi Q) := by
  unfold fX9_room_70 at hf
  refine gz_iadd (pc := 70) dX9_room_70 ?_
  refine gz_istore_n (lv := [.ref a0, .int x1, .int (w0 + w1), .int x3, .retAddr 0, .retAddr 0]) (pc := 71) dX9_room_71 rfl (by decide) rfl ?_
  refine gz_iinc (v := x3 + 1) (lv := [.ref a0, .int x1, .int (w0 + w1), .int (x3 + 1), .retAddr 0, .retAddr 0]) (pc := 72) dX9_room_72 rfl rfl (by decide) rfl ?_
  refine gz_goto (tgt := 4) (pc := 75) dX9_room_75 rfl ?_
  exact hk4 a0 x1 (w0 + w1) (x3 + 1) h hf
def fX9_room_4  : Nat → Nat → Int32 → Int32 → Int32 → gz_H → Option (Int32 × gz_H)
  | 0, _, _, _, _, _ => none
  | n + 1, a0, x1, x2, x3, h =>
    gz_ck (gz_sh h a0 9 29) <|
    if (h.2.1 a0 3) ≤ x3 then (
     some (x2, h)
    ) else (
     gz_br (h.2.2.2 a0 5) fun r_3 =>
     gz_ck (gz_inb h r_3 10 x3) <|
     gz_br (h.2.2.2 a0 0) fun r_5 =>
     gz_ck (gz_inb h r_5 10 ((2 : Int32) + x3)) <|
     gz_lt ((h.2.1 r_3 x3.toNatClampNeg) - (h.2.1 r_5 ((2 : Int32) + x3).toNatClampNeg)) fun (y_7 : Int32) =>
     gz_b2 (fX9_heldBy a0 x3 h) fun y_9 h_8 =>
     gz_b2 (fX9_bits (x1 &&& (y_9 ^^^ (-1 : Int32))) h_8) fun y_11 h_10 =>
     gz_ck (gz_sh h_10 a0 9 29) <|
     gz_b2 (fX9_isGone a0 x3 h_10) fun y_13 h_12 =>
     if y_13 = 0 then (
      if y_11 ≤ y_7 then (
       fX9_room_70 (fun z0 z1 z2 z3 zh => fX9_room_4 n z0 z1 z2 z3 zh) a0 x1 x3 x2 y_11 h_12
      ) else (
       fX9_room_70 (fun z0 z1 z2 z3 zh => fX9_room_4 n z0 z1 z2 z3 zh) a0 x1 x3 x2 y_7 h_12
      )
     ) else (
      fX9_room_70 (fun z0 z1 z2 z3 zh => fX9_room_4 n z0 z1 z2 z3 zh) a0 x1 x3 x2 (0 : Int32) h_12
     )
    )
set_option maxRecDepth 100000 in
set_option maxHeartbeats 1000000 in
theorem sX9_room_4 {G : gz_G} {d l0 s0 : Nat} {Q : Int32 → gz_H → Prop} : ∀ (n : Nat) (a0 : Nat) (x1 : Int32) (x2 : Int32) (x3 : Int32) (h : gz_H), gz_g (fX9_room_4  n a0 x1 x2 x3 h) Q → gz_Ok G mX9_room (d + 2, l0, s0, 0, 0) 4 [.ref a0, .int x1, .int x2, .int x3, .retAddr 0, .retAddr 0] [] h (gz_qi Q) := by
  intro n
  induction n with
  | zero => intro a0 x1 x2 x3 h hf; exact False.elim hf
  | succ n ih =>
    intro a0 x1 x2 x3 h hf
    rw [fX9_room_4] at hf
    refine gz_iload_n (pc := 4) dX9_room_4 rfl rfl ?_
    refine gz_aload_n (pc := 5) dX9_room_5 rfl rfl ?_
    refine gz_gk hf (fun c_1 hf => ?_)
    refine gz_getI (pc := 6) dX9_room_6 fl_RX9_158 rfl (gz_shs c_1) ?_
    refine gz_icmp_ge (tgt := 78) (pc := 9) dX9_room_9 rfl (fun c_2 => ?_) (fun c_2 => ?_)
    · have hf := gz_gT hf c_2
      refine gz_iload_n (pc := 78) dX9_room_78 rfl rfl ?_
      exact gz_irt (pc := 79) dX9_room_79 rfl rfl hf
    · have hf := gz_gF hf c_2
      refine gz_aload_n (pc := 12) dX9_room_12 rfl rfl ?_
      refine gz_gb hf (fun r_3 er_3 hf => ?_)
      refine gz_getR (pc := 13) dX9_room_13 fl_RX9_19 rfl (gz_shs c_1) er_3 ?_
      refine gz_iload_n (pc := 16) dX9_room_16 rfl rfl ?_
      refine gz_gk hf (fun c_4 hf => ?_)
      refine gz_iald (pc := 17) dX9_room_17 c_4 ?_
      refine gz_aload_n (pc := 18) dX9_room_18 rfl rfl ?_
      refine gz_gb hf (fun r_5 er_5 hf => ?_)
      refine gz_getR (pc := 19) dX9_room_19 fl_RX9_7 rfl (gz_shs c_1) er_5 ?_
      refine gz_iconst (v := (2 : Int32)) (pc := 22) dX9_room_22 rfl ?_
      refine gz_iload_n (pc := 23) dX9_room_23 rfl rfl ?_
      refine gz_iadd (pc := 24) dX9_room_24 ?_
      refine gz_gk hf (fun c_6 hf => ?_)
      refine gz_iald (pc := 25) dX9_room_25 c_6 ?_
      refine gz_isub (pc := 26) dX9_room_26 ?_
      refine gz_nmI (fun y_7 ey_7 => ?_)
      have hf := gz_gl ey_7 hf
      refine gz_istore (lv := [.ref a0, .int x1, .int x2, .int x3, .int y_7, .retAddr 0]) (pc := 27) dX9_room_27 (by decide) rfl ?_
      refine gz_iload_n (pc := 29) dX9_room_29 rfl rfl ?_
      refine gz_aload_n (pc := 30) dX9_room_30 rfl rfl ?_
      refine gz_iload_n (pc := 31) dX9_room_31 rfl rfl ?_
      refine gz_cVI (av := [.int x3]) (st := [.int x1]) (pc := 32) dX9_room_32 kl_RX9_187 rfl (gz_shs c_1) rfl rfl (Nat.le_of_ble_eq_true rfl) (by show d + 0 + 1 + 1 ≤ d + 2; omega) (sX9_heldBy (d := d + 0) (gz_gc hf)) (fun y_9 h_8 hf => ?_)
      refine gz_iconst (v := (-1 : Int32)) (pc := 35) dX9_room_35 rfl ?_
      refine gz_ixor (pc := 36) dX9_room_36 ?_
      refine gz_iand (pc := 37) dX9_room_37 ?_
      refine gz_cSI (av := [.int (x1 &&& (y_9 ^^^ (-1 : Int32)))]) (st := []) (pc := 38) dX9_room_38 kl_RX9_193 rfl rfl (Nat.le_of_ble_eq_true rfl) (by show d + 1 + 0 + 1 ≤ d + 2; omega) (sX9_bits (d := d + 1) (gz_gc hf)) (fun y_11 h_10 hf => ?_)
      refine gz_istore (lv := [.ref a0, .int x1, .int x2, .int x3, .int y_7, .int y_11]) (pc := 41) dX9_room_41 (by decide) rfl ?_
      refine gz_iload_n (pc := 43) dX9_room_43 rfl rfl ?_
      refine gz_aload_n (pc := 44) dX9_room_44 rfl rfl ?_
      refine gz_iload_n (pc := 45) dX9_room_45 rfl rfl ?_
      refine gz_gk hf (fun c_14 hf => ?_)
      refine gz_cVI (av := [.int x3]) (st := [.int x2]) (pc := 46) dX9_room_46 kl_RX9_177 rfl (gz_shs c_14) rfl rfl (Nat.le_of_ble_eq_true rfl) (by show d + 0 + 1 + 1 ≤ d + 2; omega) (sX9_isGone (d := d + 0) (gz_gc hf)) (fun y_13 h_12 hf => ?_)
      refine gz_if_eq (tgt := 56) (pc := 49) dX9_room_49 rfl (fun c_15 => ?_) (fun c_15 => ?_)
      · have hf := gz_gT hf c_15
        refine gz_iload (pc := 56) dX9_room_56 rfl ?_
        refine gz_iload (pc := 58) dX9_room_58 rfl ?_
        refine gz_icmp_ge (tgt := 68) (pc := 60) dX9_room_60 rfl (fun c_16 => ?_) (fun c_16 => ?_)
        · have hf := gz_gT hf c_16
          refine gz_iload (pc := 68) dX9_room_68 rfl ?_
          refine gz_fg (lv := [.ref a0, .int x1, .retAddr 0, .int x3, .retAddr 0, .retAddr 0]) ⟨Or.inr rfl, ⟨Or.inr rfl, ⟨Or.inl rfl, ⟨Or.inr rfl, ⟨Or.inl rfl, ⟨Or.inl rfl, trivial⟩⟩⟩⟩⟩⟩ ?_
          exact sX9_room_70 ih a0 x1 x3 x2 y_11 h_12 hf
        · have hf := gz_gF hf c_16
          refine gz_iload (pc := 63) dX9_room_63 rfl ?_
          refine gz_goto (tgt := 70) (pc := 65) dX9_room_65 rfl ?_
          refine gz_fg (lv := [.ref a0, .int x1, .retAddr 0, .int x3, .retAddr 0, .retAddr 0]) ⟨Or.inr rfl, ⟨Or.inr rfl, ⟨Or.inl rfl, ⟨Or.inr rfl, ⟨Or.inl rfl, ⟨Or.inl rfl, trivial⟩⟩⟩⟩⟩⟩ ?_
          exact sX9_room_70 ih a0 x1 x3 x2 y_7 h_12 hf
      · have hf := gz_gF hf c_15
        refine gz_iconst (v := (0 : Int32)) (pc := 52) dX9_room_52 rfl ?_
        refine gz_goto (tgt := 70) (pc := 53) dX9_room_53 rfl ?_
        refine gz_fg (lv := [.ref a0, .int x1, .retAddr 0, .int x3, .retAddr 0, .retAddr 0]) ⟨Or.inr rfl, ⟨Or.inr rfl, ⟨Or.inl rfl, ⟨Or.inr rfl, ⟨Or.inl rfl, ⟨Or.inl rfl, trivial⟩⟩⟩⟩⟩⟩ ?_
        exact sX9_room_70 ih a0 x1 x3 x2 (0 : Int32) h_12 hf
def fX9_room_0  (a0 : Nat) (x1 : Int32) (h : gz_H) : Option (Int32 × gz_H) :=
    fX9_room_4 gz_fu a0 x1 (0 : Int32) (0 : Int32) h
set_option maxRecDepth 100000 in
set_option maxHeartbeats 1000000 in
theorem sX9_room_0 {G : gz_G} {d l0 s0 : Nat} {Q : Int32 → gz_H → Prop} (a0 : Nat) (x1 : Int32) (h : gz_H) (hf : gz_g (fX9_room_0  a0 x1 h) Q) : gz_Ok G mX9_room (d + 2, l0, s0, 0, 0) 0 [.ref a0, .int x1, .retAddr 0, .retAddr 0, .retAddr 0, .retAddr 0] [] h (gz_qi Q) := by
  unfold fX9_room_0 at hf
  refine gz_iconst (v := (0 : Int32)) (pc := 0) dX9_room_0 rfl ?_
  refine gz_istore_n (lv := [.ref a0, .int x1, .int (0 : Int32), .retAddr 0, .retAddr 0, .retAddr 0]) (pc := 1) dX9_room_1 rfl (by decide) rfl ?_
  refine gz_iconst (v := (0 : Int32)) (pc := 2) dX9_room_2 rfl ?_
  refine gz_istore_n (lv := [.ref a0, .int x1, .int (0 : Int32), .int (0 : Int32), .retAddr 0, .retAddr 0]) (pc := 3) dX9_room_3 rfl (by decide) rfl ?_
  exact sX9_room_4 gz_fu a0 x1 (0 : Int32) (0 : Int32) h hf
def fX9_room (a0 : Nat) (x1 : Int32) (h : gz_H) : Option (Int32 × gz_H) := fX9_room_0 a0 x1 h
theorem sX9_room {G : gz_G} {d : Nat} {a0 : Nat} {x1 : Int32} {h : gz_H} {Q : Int32 → gz_H → Prop} (hf : gz_g (fX9_room a0 x1 h) Q) : gz_Cl G mX9_room (d + 2) 0 0 [.ref a0, .int x1] h (gz_qi Q) := gz_cl_of (lo := [.ref a0, .int x1, .retAddr 0, .retAddr 0, .retAddr 0, .retAddr 0]) (by decide) rfl rfl (Nat.le_of_ble_eq_true rfl) (sX9_room_0 a0 x1 h hf)
theorem dX9_safe_0 : decode cX9_safe 0 = .ok (.aload_n 0, 1) := by decide +kernel
theorem dX9_safe_1 : decode cX9_safe 1 = .ok (.getfield 158, 3) := by decide +kernel
theorem dX9_safe_4 : decode cX9_safe 4 = .ok (.ifCond .ne 6, 3) := by decide +kernel
theorem dX9_safe_7 : decode cX9_safe 7 = .ok (.bipush (-4), 2) := by decide +kernel
theorem dX9_safe_9 : decode cX9_safe 9 = .ok (.ireturn, 1) := by decide +kernel
theorem dX9_safe_10 : decode cX9_safe 10 = .ok (.iconst 0, 1) := by decide +kernel
theorem dX9_safe_11 : decode cX9_safe 11 = .ok (.istore_n 1, 1) := by decide +kernel
theorem dX9_safe_12 : decode cX9_safe 12 = .ok (.iload_n 1, 1) := by decide +kernel
theorem dX9_safe_13 : decode cX9_safe 13 = .ok (.aload_n 0, 1) := by decide +kernel
theorem dX9_safe_14 : decode cX9_safe 14 = .ok (.invokevirtual 251, 3) := by decide +kernel
theorem dX9_safe_17 : decode cX9_safe 17 = .ok (.if_icmp .gt 25, 3) := by decide +kernel
theorem dX9_safe_20 : decode cX9_safe 20 = .ok (.aload_n 0, 1) := by decide +kernel
theorem dX9_safe_21 : decode cX9_safe 21 = .ok (.iload_n 1, 1) := by decide +kernel
theorem dX9_safe_22 : decode cX9_safe 22 = .ok (.invokevirtual 272, 3) := by decide +kernel
theorem dX9_safe_25 : decode cX9_safe 25 = .ok (.aload_n 0, 1) := by decide +kernel
theorem dX9_safe_26 : decode cX9_safe 26 = .ok (.iload_n 1, 1) := by decide +kernel
theorem dX9_safe_27 : decode cX9_safe 27 = .ok (.invokevirtual 275, 3) := by decide +kernel
theorem dX9_safe_30 : decode cX9_safe 30 = .ok (.if_icmp .le 6, 3) := by decide +kernel
theorem dX9_safe_33 : decode cX9_safe 33 = .ok (.bipush (-9), 2) := by decide +kernel
theorem dX9_safe_35 : decode cX9_safe 35 = .ok (.ireturn, 1) := by decide +kernel
theorem dX9_safe_36 : decode cX9_safe 36 = .ok (.iinc 1 1, 3) := by decide +kernel
theorem dX9_safe_39 : decode cX9_safe 39 = .ok (.goto (-27), 3) := by decide +kernel
theorem dX9_safe_42 : decode cX9_safe 42 = .ok (.aload_n 0, 1) := by decide +kernel
theorem dX9_safe_43 : decode cX9_safe 43 = .ok (.aload_n 0, 1) := by decide +kernel
theorem dX9_safe_44 : decode cX9_safe 44 = .ok (.invokevirtual 251, 3) := by decide +kernel
theorem dX9_safe_47 : decode cX9_safe 47 = .ok (.invokevirtual 272, 3) := by decide +kernel
theorem dX9_safe_50 : decode cX9_safe 50 = .ok (.ireturn, 1) := by decide +kernel
def fX9_safe_12  : Nat → Nat → Int32 → gz_H → Option (Int32 × gz_H)
  | 0, _, _, _ => none
  | n + 1, a0, x1, h =>
    gz_ck (gz_sh h a0 9 29) <|
    gz_b2 (fX9_allFacts a0 h) fun y_2 h_1 =>
    if y_2 < x1 then (
     gz_ck (gz_sh h_1 a0 9 29) <|
     gz_b2 (fX9_allFacts a0 h_1) fun y_6 h_5 =>
     gz_ck (gz_sh h_5 a0 9 29) <|
     gz_b2 (fX9_missing a0 y_6 h_5) fun y_9 h_8 =>
     some (y_9, h_8)
    ) else (
     gz_ck (gz_sh h_1 a0 9 29) <|
     gz_b2 (fX9_missing a0 x1 h_1) fun y_12 h_11 =>
     gz_ck (gz_sh h_11 a0 9 29) <|
     gz_b2 (fX9_room a0 x1 h_11) fun y_15 h_14 =>
     if y_12 ≤ y_15 then (
      fX9_safe_12 n a0 (x1 + 1) h_14
     ) else (
      some ((-9 : Int32), h_14)
     )
    )
set_option maxRecDepth 100000 in
set_option maxHeartbeats 1000000 in
theorem sX9_safe_12 {G : gz_G} {d l0 s0 : Nat} {Q : Int32 → gz_H → Prop} : ∀ (n : Nat) (a0 : Nat) (x1 : Int32) (h : gz_H), gz_g (fX9_safe_12  n a0 x1 h) Q → gz_Ok G mX9_safe (d + 4, l0, s0, 0, 0) 12 [.ref a0, .int x1] [] h (gz_qi Q) := by
  intro n
  induction n with
  | zero => intro a0 x1 h hf; exact False.elim hf
  | succ n ih =>
    intro a0 x1 h hf
    rw [fX9_safe_12] at hf
    refine gz_iload_n (pc := 12) dX9_safe_12 rfl rfl ?_
    refine gz_aload_n (pc := 13) dX9_safe_13 rfl rfl ?_
    refine gz_gk hf (fun c_3 hf => ?_)
    refine gz_cVI (av := []) (st := [.int x1]) (pc := 14) dX9_safe_14 kl_RX9_251 rfl (gz_shs c_3) rfl rfl (Nat.le_of_ble_eq_true rfl) (by show d + 3 + 0 + 1 ≤ d + 4; omega) (sX9_allFacts (d := d + 3) (gz_gc hf)) (fun y_2 h_1 hf => ?_)
    refine gz_icmp_gt (tgt := 42) (pc := 17) dX9_safe_17 rfl (fun c_4 => ?_) (fun c_4 => ?_)
    · have hf := gz_gT hf c_4
      refine gz_aload_n (pc := 42) dX9_safe_42 rfl rfl ?_
      refine gz_aload_n (pc := 43) dX9_safe_43 rfl rfl ?_
      refine gz_gk hf (fun c_7 hf => ?_)
      refine gz_cVI (av := []) (st := [.ref a0]) (pc := 44) dX9_safe_44 kl_RX9_251 rfl (gz_shs c_7) rfl rfl (Nat.le_of_ble_eq_true rfl) (by show d + 3 + 0 + 1 ≤ d + 4; omega) (sX9_allFacts (d := d + 3) (gz_gc hf)) (fun y_6 h_5 hf => ?_)
      refine gz_gk hf (fun c_10 hf => ?_)
      refine gz_cVI (av := [.int y_6]) (st := []) (pc := 47) dX9_safe_47 kl_RX9_272 rfl (gz_shs c_10) rfl rfl (Nat.le_of_ble_eq_true rfl) (by show d + 0 + 3 + 1 ≤ d + 4; omega) (sX9_missing (d := d + 0) (gz_gc hf)) (fun y_9 h_8 hf => ?_)
      exact gz_irt (pc := 50) dX9_safe_50 rfl rfl hf
    · have hf := gz_gF hf c_4
      refine gz_aload_n (pc := 20) dX9_safe_20 rfl rfl ?_
      refine gz_iload_n (pc := 21) dX9_safe_21 rfl rfl ?_
      refine gz_gk hf (fun c_13 hf => ?_)
      refine gz_cVI (av := [.int x1]) (st := []) (pc := 22) dX9_safe_22 kl_RX9_272 rfl (gz_shs c_13) rfl rfl (Nat.le_of_ble_eq_true rfl) (by show d + 0 + 3 + 1 ≤ d + 4; omega) (sX9_missing (d := d + 0) (gz_gc hf)) (fun y_12 h_11 hf => ?_)
      refine gz_aload_n (pc := 25) dX9_safe_25 rfl rfl ?_
      refine gz_iload_n (pc := 26) dX9_safe_26 rfl rfl ?_
      refine gz_gk hf (fun c_16 hf => ?_)
      refine gz_cVI (av := [.int x1]) (st := [.int y_12]) (pc := 27) dX9_safe_27 kl_RX9_275 rfl (gz_shs c_16) rfl rfl (Nat.le_of_ble_eq_true rfl) (by show d + 1 + 2 + 1 ≤ d + 4; omega) (sX9_room (d := d + 1) (gz_gc hf)) (fun y_15 h_14 hf => ?_)
      refine gz_icmp_le (tgt := 36) (pc := 30) dX9_safe_30 rfl (fun c_17 => ?_) (fun c_17 => ?_)
      · have hf := gz_gT hf c_17
        refine gz_iinc (v := x1 + 1) (lv := [.ref a0, .int (x1 + 1)]) (pc := 36) dX9_safe_36 rfl rfl (by decide) rfl ?_
        refine gz_goto (tgt := 12) (pc := 39) dX9_safe_39 rfl ?_
        exact ih a0 (x1 + 1) h_14 hf
      · have hf := gz_gF hf c_17
        refine gz_bipush (v := (-9 : Int32)) (pc := 33) dX9_safe_33 rfl ?_
        exact gz_irt (pc := 35) dX9_safe_35 rfl rfl hf
def fX9_safe_0  (a0 : Nat) (h : gz_H) : Option (Int32 × gz_H) :=
    gz_ck (gz_sh h a0 9 29) <|
    if (h.2.1 a0 3) = 0 then (
     some ((-4 : Int32), h)
    ) else (
     fX9_safe_12 gz_fu a0 (0 : Int32) h
    )
set_option maxRecDepth 100000 in
set_option maxHeartbeats 1000000 in
theorem sX9_safe_0 {G : gz_G} {d l0 s0 : Nat} {Q : Int32 → gz_H → Prop} (a0 : Nat) (h : gz_H) (hf : gz_g (fX9_safe_0  a0 h) Q) : gz_Ok G mX9_safe (d + 4, l0, s0, 0, 0) 0 [.ref a0, .retAddr 0] [] h (gz_qi Q) := by
  unfold fX9_safe_0 at hf
  refine gz_aload_n (pc := 0) dX9_safe_0 rfl rfl ?_
  refine gz_gk hf (fun c_1 hf => ?_)
  refine gz_getI (pc := 1) dX9_safe_1 fl_RX9_158 rfl (gz_shs c_1) ?_
  refine gz_if_ne (tgt := 10) (pc := 4) dX9_safe_4 rfl (fun c_2 => ?_) (fun c_2 => ?_)
  · have hf := gz_gF hf c_2
    refine gz_iconst (v := (0 : Int32)) (pc := 10) dX9_safe_10 rfl ?_
    refine gz_istore_n (lv := [.ref a0, .int (0 : Int32)]) (pc := 11) dX9_safe_11 rfl (by decide) rfl ?_
    exact sX9_safe_12 gz_fu a0 (0 : Int32) h hf
  · have hf := gz_gT hf c_2
    refine gz_bipush (v := (-4 : Int32)) (pc := 7) dX9_safe_7 rfl ?_
    exact gz_irt (pc := 9) dX9_safe_9 rfl rfl hf
def fX9_safe (a0 : Nat) (h : gz_H) : Option (Int32 × gz_H) := fX9_safe_0 a0 h
theorem sX9_safe {G : gz_G} {d : Nat} {a0 : Nat} {h : gz_H} {Q : Int32 → gz_H → Prop} (hf : gz_g (fX9_safe a0 h) Q) : gz_Cl G mX9_safe (d + 4) 0 0 [.ref a0] h (gz_qi Q) := gz_cl_of (lo := [.ref a0, .retAddr 0]) (by decide) rfl rfl (Nat.le_of_ble_eq_true rfl) (sX9_safe_0 a0 h hf)
theorem dX9_tellParts_0 : decode cX9_tellParts 0 = .ok (.lload_n 1, 1) := by decide +kernel
theorem dX9_tellParts_1 : decode cX9_tellParts 1 = .ok (.lstore 5, 2) := by decide +kernel
theorem dX9_tellParts_3 : decode cX9_tellParts 3 = .ok (.lload_n 3, 1) := by decide +kernel
theorem dX9_tellParts_4 : decode cX9_tellParts 4 = .ok (.lstore 7, 2) := by decide +kernel
theorem dX9_tellParts_6 : decode cX9_tellParts 6 = .ok (.lload 7, 2) := by decide +kernel
theorem dX9_tellParts_8 : decode cX9_tellParts 8 = .ok (.lconst 0, 1) := by decide +kernel
theorem dX9_tellParts_9 : decode cX9_tellParts 9 = .ok (.lcmp, 1) := by decide +kernel
theorem dX9_tellParts_10 : decode cX9_tellParts 10 = .ok (.ifCond .eq 21, 3) := by decide +kernel
theorem dX9_tellParts_13 : decode cX9_tellParts 13 = .ok (.lload 5, 2) := by decide +kernel
theorem dX9_tellParts_15 : decode cX9_tellParts 15 = .ok (.lload 7, 2) := by decide +kernel
theorem dX9_tellParts_17 : decode cX9_tellParts 17 = .ok (.lrem, 1) := by decide +kernel
theorem dX9_tellParts_18 : decode cX9_tellParts 18 = .ok (.lstore 9, 2) := by decide +kernel
theorem dX9_tellParts_20 : decode cX9_tellParts 20 = .ok (.lload 7, 2) := by decide +kernel
theorem dX9_tellParts_22 : decode cX9_tellParts 22 = .ok (.lstore 5, 2) := by decide +kernel
theorem dX9_tellParts_24 : decode cX9_tellParts 24 = .ok (.lload 9, 2) := by decide +kernel
theorem dX9_tellParts_26 : decode cX9_tellParts 26 = .ok (.lstore 7, 2) := by decide +kernel
theorem dX9_tellParts_28 : decode cX9_tellParts 28 = .ok (.goto (-22), 3) := by decide +kernel
theorem dX9_tellParts_31 : decode cX9_tellParts 31 = .ok (.aload_n 0, 1) := by decide +kernel
theorem dX9_tellParts_32 : decode cX9_tellParts 32 = .ok (.lload_n 1, 1) := by decide +kernel
theorem dX9_tellParts_33 : decode cX9_tellParts 33 = .ok (.lload 5, 2) := by decide +kernel
theorem dX9_tellParts_35 : decode cX9_tellParts 35 = .ok (.ldiv, 1) := by decide +kernel
theorem dX9_tellParts_36 : decode cX9_tellParts 36 = .ok (.putfield 278, 3) := by decide +kernel
theorem dX9_tellParts_39 : decode cX9_tellParts 39 = .ok (.aload_n 0, 1) := by decide +kernel
theorem dX9_tellParts_40 : decode cX9_tellParts 40 = .ok (.lload_n 3, 1) := by decide +kernel
theorem dX9_tellParts_41 : decode cX9_tellParts 41 = .ok (.lload 5, 2) := by decide +kernel
theorem dX9_tellParts_43 : decode cX9_tellParts 43 = .ok (.ldiv, 1) := by decide +kernel
theorem dX9_tellParts_44 : decode cX9_tellParts 44 = .ok (.putfield 37, 3) := by decide +kernel
theorem dX9_tellParts_47 : decode cX9_tellParts 47 = .ok (.iconst 1, 1) := by decide +kernel
theorem dX9_tellParts_48 : decode cX9_tellParts 48 = .ok (.ireturn, 1) := by decide +kernel
def fX9_tellParts_6  : Nat → Nat → Int64 → Int64 → Int64 → Int64 → gz_H → Option (Int32 × gz_H)
  | 0, _, _, _, _, _, _ => none
  | n + 1, a0, x1, x3, x5, x7, h =>
    if (lg_cmp x7 (0 : Int64)) = 0 then (
     gz_ck (gz_nzL x5) <|
     gz_ck (gz_sh h a0 9 29) <|
     gz_lt (uL h a0 12 (x1 / x5)) fun h_4 =>
     gz_ck (gz_sh h_4 a0 9 29) <|
     gz_lt (uL h_4 a0 13 (x3 / x5)) fun h_6 =>
     some ((1 : Int32), h_6)
    ) else (
     gz_ck (gz_nzL x7) <|
     fX9_tellParts_6 n a0 x1 x3 x7 (x5 - x5 / x7 * x7) h
    )
set_option maxRecDepth 100000 in
set_option maxHeartbeats 1000000 in
theorem sX9_tellParts_6 {G : gz_G} {d l0 s0 : Nat} {Q : Int32 → gz_H → Prop} : ∀ (n : Nat) (a0 : Nat) (x1 : Int64) (x3 : Int64) (x5 : Int64) (x7 : Int64) (h : gz_H), gz_g (fX9_tellParts_6  n a0 x1 x3 x5 x7 h) Q → gz_Ok G mX9_tellParts (d + 0, l0, s0, 0, 0) 6 [.ref a0, .long x1, .retAddr 0, .long x3, .retAddr 0, .long x5, .retAddr 0, .long x7, .retAddr 0, .retAddr 0, .retAddr 0] [] h (gz_qi Q) := by
  intro n
  induction n with
  | zero => intro a0 x1 x3 x5 x7 h hf; exact False.elim hf
  | succ n ih =>
    intro a0 x1 x3 x5 x7 h hf
    rw [fX9_tellParts_6] at hf
    refine gz_lload (pc := 6) dX9_tellParts_6 rfl ?_
    refine gz_lconst (v := (0 : Int64)) (pc := 8) dX9_tellParts_8 rfl ?_
    refine gz_lcmp (pc := 9) dX9_tellParts_9 ?_
    refine gz_if_eq (tgt := 31) (pc := 10) dX9_tellParts_10 rfl (fun c_1 => ?_) (fun c_1 => ?_)
    · have hf := gz_gT hf c_1
      refine gz_aload_n (pc := 31) dX9_tellParts_31 rfl rfl ?_
      refine gz_lload_n (pc := 32) dX9_tellParts_32 rfl rfl ?_
      refine gz_lload (pc := 33) dX9_tellParts_33 rfl ?_
      refine gz_gk hf (fun c_2 hf => ?_)
      refine gz_ldiv (pc := 35) dX9_tellParts_35 (gz_nzLs c_2) ?_
      refine gz_gk hf (fun c_3 hf => ?_)
      refine gz_putL (pc := 36) dX9_tellParts_36 fw_X9_tellParts_278 rfl (gz_shs c_3) ?_
      refine gz_nmH (fun h_4 eh_4 => ?_)
      have hf := gz_gl eh_4 hf
      refine gz_aload_n (pc := 39) dX9_tellParts_39 rfl rfl ?_
      refine gz_lload_n (pc := 40) dX9_tellParts_40 rfl rfl ?_
      refine gz_lload (pc := 41) dX9_tellParts_41 rfl ?_
      refine gz_ldiv (pc := 43) dX9_tellParts_43 (gz_nzLs c_2) ?_
      refine gz_gk hf (fun c_5 hf => ?_)
      refine gz_putL (pc := 44) dX9_tellParts_44 fw_X9_tellParts_37 rfl (gz_shs c_5) ?_
      refine gz_nmH (fun h_6 eh_6 => ?_)
      have hf := gz_gl eh_6 hf
      refine gz_iconst (v := (1 : Int32)) (pc := 47) dX9_tellParts_47 rfl ?_
      exact gz_irt (pc := 48) dX9_tellParts_48 rfl rfl hf
    · have hf := gz_gF hf c_1
      refine gz_lload (pc := 13) dX9_tellParts_13 rfl ?_
      refine gz_lload (pc := 15) dX9_tellParts_15 rfl ?_
      refine gz_gk hf (fun c_7 hf => ?_)
      refine gz_lrem (pc := 17) dX9_tellParts_17 (gz_nzLs c_7) ?_
      refine gz_lstore (lv := [.ref a0, .long x1, .retAddr 0, .long x3, .retAddr 0, .long x5, .retAddr 0, .long x7, .retAddr 0, .long (x5 - x5 / x7 * x7), .retAddr 0]) (pc := 18) dX9_tellParts_18 (by decide) rfl ?_
      refine gz_lload (pc := 20) dX9_tellParts_20 rfl ?_
      refine gz_lstore (lv := [.ref a0, .long x1, .retAddr 0, .long x3, .retAddr 0, .long x7, .retAddr 0, .long x7, .retAddr 0, .long (x5 - x5 / x7 * x7), .retAddr 0]) (pc := 22) dX9_tellParts_22 (by decide) rfl ?_
      refine gz_lload (pc := 24) dX9_tellParts_24 rfl ?_
      refine gz_lstore (lv := [.ref a0, .long x1, .retAddr 0, .long x3, .retAddr 0, .long x7, .retAddr 0, .long (x5 - x5 / x7 * x7), .retAddr 0, .long (x5 - x5 / x7 * x7), .retAddr 0]) (pc := 26) dX9_tellParts_26 (by decide) rfl ?_
      refine gz_goto (tgt := 6) (pc := 28) dX9_tellParts_28 rfl ?_
      refine gz_fg (lv := [.ref a0, .long x1, .retAddr 0, .long x3, .retAddr 0, .long x7, .retAddr 0, .long (x5 - x5 / x7 * x7), .retAddr 0, .retAddr 0, .retAddr 0]) ⟨Or.inr rfl, ⟨Or.inr rfl, ⟨Or.inl rfl, ⟨Or.inr rfl, ⟨Or.inl rfl, ⟨Or.inr rfl, ⟨Or.inl rfl, ⟨Or.inr rfl, ⟨Or.inl rfl, ⟨Or.inl rfl, ⟨Or.inl rfl, trivial⟩⟩⟩⟩⟩⟩⟩⟩⟩⟩⟩ ?_
      exact ih a0 x1 x3 x7 (x5 - x5 / x7 * x7) h hf
def fX9_tellParts_0  (a0 : Nat) (x1 : Int64) (x3 : Int64) (h : gz_H) : Option (Int32 × gz_H) :=
    fX9_tellParts_6 gz_fu a0 x1 x3 x1 x3 h
set_option maxRecDepth 100000 in
set_option maxHeartbeats 1000000 in
theorem sX9_tellParts_0 {G : gz_G} {d l0 s0 : Nat} {Q : Int32 → gz_H → Prop} (a0 : Nat) (x1 : Int64) (x3 : Int64) (h : gz_H) (hf : gz_g (fX9_tellParts_0  a0 x1 x3 h) Q) : gz_Ok G mX9_tellParts (d + 0, l0, s0, 0, 0) 0 [.ref a0, .long x1, .retAddr 0, .long x3, .retAddr 0, .retAddr 0, .retAddr 0, .retAddr 0, .retAddr 0, .retAddr 0, .retAddr 0] [] h (gz_qi Q) := by
  unfold fX9_tellParts_0 at hf
  refine gz_lload_n (pc := 0) dX9_tellParts_0 rfl rfl ?_
  refine gz_lstore (lv := [.ref a0, .long x1, .retAddr 0, .long x3, .retAddr 0, .long x1, .retAddr 0, .retAddr 0, .retAddr 0, .retAddr 0, .retAddr 0]) (pc := 1) dX9_tellParts_1 (by decide) rfl ?_
  refine gz_lload_n (pc := 3) dX9_tellParts_3 rfl rfl ?_
  refine gz_lstore (lv := [.ref a0, .long x1, .retAddr 0, .long x3, .retAddr 0, .long x1, .retAddr 0, .long x3, .retAddr 0, .retAddr 0, .retAddr 0]) (pc := 4) dX9_tellParts_4 (by decide) rfl ?_
  exact sX9_tellParts_6 gz_fu a0 x1 x3 x1 x3 h hf
def fX9_tellParts (a0 : Nat) (x1 : Int64) (x3 : Int64) (h : gz_H) : Option (Int32 × gz_H) := fX9_tellParts_0 a0 x1 x3 h
theorem sX9_tellParts {G : gz_G} {d : Nat} {a0 : Nat} {x1 : Int64} {x3 : Int64} {h : gz_H} {Q : Int32 → gz_H → Prop} (hf : gz_g (fX9_tellParts a0 x1 x3 h) Q) : gz_Cl G mX9_tellParts (d + 0) 0 0 [.ref a0, .long x1, .long x3] h (gz_qi Q) := gz_cl_of (lo := [.ref a0, .long x1, .retAddr 0, .long x3, .retAddr 0, .retAddr 0, .retAddr 0, .retAddr 0, .retAddr 0, .retAddr 0, .retAddr 0]) (by decide) rfl rfl (Nat.le_of_ble_eq_true rfl) (sX9_tellParts_0 a0 x1 x3 h hf)
theorem dX9_share_0 : decode cX9_share 0 = .ok (.aload_n 0, 1) := by decide +kernel
theorem dX9_share_1 : decode cX9_share 1 = .ok (.iload_n 1, 1) := by decide +kernel
theorem dX9_share_2 : decode cX9_share 2 = .ok (.invokevirtual 196, 3) := by decide +kernel
theorem dX9_share_5 : decode cX9_share 5 = .ok (.ifCond .ne 5, 3) := by decide +kernel
theorem dX9_share_8 : decode cX9_share 8 = .ok (.iconst (-1), 1) := by decide +kernel
theorem dX9_share_9 : decode cX9_share 9 = .ok (.ireturn, 1) := by decide +kernel
theorem dX9_share_10 : decode cX9_share 10 = .ok (.aload_n 0, 1) := by decide +kernel
theorem dX9_share_11 : decode cX9_share 11 = .ok (.iload_n 1, 1) := by decide +kernel
theorem dX9_share_12 : decode cX9_share 12 = .ok (.invokevirtual 213, 3) := by decide +kernel
theorem dX9_share_15 : decode cX9_share 15 = .ok (.istore_n 2, 1) := by decide +kernel
theorem dX9_share_16 : decode cX9_share 16 = .ok (.iconst 0, 1) := by decide +kernel
theorem dX9_share_17 : decode cX9_share 17 = .ok (.istore_n 3, 1) := by decide +kernel
theorem dX9_share_18 : decode cX9_share 18 = .ok (.iconst 0, 1) := by decide +kernel
theorem dX9_share_19 : decode cX9_share 19 = .ok (.istore 4, 2) := by decide +kernel
theorem dX9_share_21 : decode cX9_share 21 = .ok (.iload 4, 2) := by decide +kernel
theorem dX9_share_23 : decode cX9_share 23 = .ok (.aload_n 0, 1) := by decide +kernel
theorem dX9_share_24 : decode cX9_share 24 = .ok (.getfield 155, 3) := by decide +kernel
theorem dX9_share_27 : decode cX9_share 27 = .ok (.if_icmp .ge 67, 3) := by decide +kernel
theorem dX9_share_30 : decode cX9_share 30 = .ok (.iconst 0, 1) := by decide +kernel
theorem dX9_share_31 : decode cX9_share 31 = .ok (.istore 5, 2) := by decide +kernel
theorem dX9_share_33 : decode cX9_share 33 = .ok (.iconst 0, 1) := by decide +kernel
theorem dX9_share_34 : decode cX9_share 34 = .ok (.istore 6, 2) := by decide +kernel
theorem dX9_share_36 : decode cX9_share 36 = .ok (.iload 6, 2) := by decide +kernel
theorem dX9_share_38 : decode cX9_share 38 = .ok (.aload_n 0, 1) := by decide +kernel
theorem dX9_share_39 : decode cX9_share 39 = .ok (.getfield 158, 3) := by decide +kernel
theorem dX9_share_42 : decode cX9_share 42 = .ok (.if_icmp .ge 25, 3) := by decide +kernel
theorem dX9_share_45 : decode cX9_share 45 = .ok (.iload 5, 2) := by decide +kernel
theorem dX9_share_47 : decode cX9_share 47 = .ok (.aload_n 0, 1) := by decide +kernel
theorem dX9_share_48 : decode cX9_share 48 = .ok (.iload 6, 2) := by decide +kernel
theorem dX9_share_50 : decode cX9_share 50 = .ok (.invokevirtual 213, 3) := by decide +kernel
theorem dX9_share_53 : decode cX9_share 53 = .ok (.iload 4, 2) := by decide +kernel
theorem dX9_share_55 : decode cX9_share 55 = .ok (.ishr, 1) := by decide +kernel
theorem dX9_share_56 : decode cX9_share 56 = .ok (.iconst 1, 1) := by decide +kernel
theorem dX9_share_57 : decode cX9_share 57 = .ok (.iand, 1) := by decide +kernel
theorem dX9_share_58 : decode cX9_share 58 = .ok (.iadd, 1) := by decide +kernel
theorem dX9_share_59 : decode cX9_share 59 = .ok (.istore 5, 2) := by decide +kernel
theorem dX9_share_61 : decode cX9_share 61 = .ok (.iinc 6 1, 3) := by decide +kernel
theorem dX9_share_64 : decode cX9_share 64 = .ok (.goto (-28), 3) := by decide +kernel
theorem dX9_share_67 : decode cX9_share 67 = .ok (.iload_n 3, 1) := by decide +kernel
theorem dX9_share_68 : decode cX9_share 68 = .ok (.iload_n 2, 1) := by decide +kernel
theorem dX9_share_69 : decode cX9_share 69 = .ok (.iload 4, 2) := by decide +kernel
theorem dX9_share_71 : decode cX9_share 71 = .ok (.invokestatic 142, 3) := by decide +kernel
theorem dX9_share_74 : decode cX9_share 74 = .ok (.ifCond .eq 11, 3) := by decide +kernel
theorem dX9_share_77 : decode cX9_share 77 = .ok (.bipush 60, 2) := by decide +kernel
theorem dX9_share_79 : decode cX9_share 79 = .ok (.iload 5, 2) := by decide +kernel
theorem dX9_share_81 : decode cX9_share 81 = .ok (.idiv, 1) := by decide +kernel
theorem dX9_share_82 : decode cX9_share 82 = .ok (.goto 4, 3) := by decide +kernel
theorem dX9_share_85 : decode cX9_share 85 = .ok (.iconst 0, 1) := by decide +kernel
theorem dX9_share_86 : decode cX9_share 86 = .ok (.iadd, 1) := by decide +kernel
theorem dX9_share_87 : decode cX9_share 87 = .ok (.istore_n 3, 1) := by decide +kernel
theorem dX9_share_88 : decode cX9_share 88 = .ok (.iinc 4 1, 3) := by decide +kernel
theorem dX9_share_91 : decode cX9_share 91 = .ok (.goto (-70), 3) := by decide +kernel
theorem dX9_share_94 : decode cX9_share 94 = .ok (.aload_n 0, 1) := by decide +kernel
theorem dX9_share_95 : decode cX9_share 95 = .ok (.iload_n 3, 1) := by decide +kernel
theorem dX9_share_96 : decode cX9_share 96 = .ok (.i2l, 1) := by decide +kernel
theorem dX9_share_97 : decode cX9_share 97 = .ok (.ldc2_w 281, 3) := by decide +kernel
theorem dX9_share_100 : decode cX9_share 100 = .ok (.invokevirtual 283, 3) := by decide +kernel
theorem dX9_share_103 : decode cX9_share 103 = .ok (.ireturn, 1) := by decide +kernel
def fX9_share_86 (k21 : Nat → Int32 → Int32 → Int32 → gz_H → Option (Int32 × gz_H)) (a0 : Nat) (x2 : Int32) (x4 : Int32) (w0 : Int32) (w1 : Int32) (h : gz_H) : Option (Int32 × gz_H) :=
    k21 a0 x2 (w0 + w1) (x4 + 1) h
set_option maxRecDepth 100000 in
set_option maxHeartbeats 1000000 in
theorem sX9_share_86 {G : gz_G} {d l0 s0 : Nat} {Q : Int32 → gz_H → Prop} {k21 : Nat → Int32 → Int32 → Int32 → gz_H → Option (Int32 × gz_H)} (hk21 : ∀ (a0 : Nat) (x2 : Int32) (x3 : Int32) (x4 : Int32) (h : gz_H), gz_g (k21 a0 x2 x3 x4 h) Q → gz_Ok G mX9_share (d + 4, l0, s0, 0, 0) 21 [.ref a0, .retAddr 0, .int x2, .int x3, .int x4, .retAddr 0, .retAddr 0] [] h (gz_qi Q)) (a0 : Nat) (x2 : Int32) (x4 : Int32) (w0 : Int32) (w1 : Int32) (h : gz_H) (hf : gz_g (fX9_share_86 k21 a0 x2 x4 w0 w1 h) Q) : gz_Ok G mX9_share (d + 4, l0, s0, 0, 0) 86 [.ref a0, .retAddr 0, .int x2, .retAddr 0, .int x4, .retAddr 0, .retAddr 0] [.int w1, .int w0] h (gz_qi Q) := by
  unfold fX9_share_86 at hf
  refine gz_iadd (pc := 86) dX9_share_86 ?_
  refine gz_istore_n (lv := [.ref a0, .retAddr 0, .int x2, .int (w0 + w1), .int x4, .retAddr 0, .retAddr 0]) (pc := 87) dX9_share_87 rfl (by decide) rfl ?_
  refine gz_iinc (v := x4 + 1) (lv := [.ref a0, .retAddr 0, .int x2, .int (w0 + w1), .int (x4 + 1), .retAddr 0, .retAddr 0]) (pc := 88) dX9_share_88 rfl rfl (by decide) rfl ?_
  refine gz_goto (tgt := 21) (pc := 91) dX9_share_91 rfl ?_
  exact hk21 a0 x2 (w0 + w1) (x4 + 1) h hf
def fX9_share_36 (k21 : Nat → Int32 → Int32 → Int32 → gz_H → Option (Int32 × gz_H)) : Nat → Nat → Int32 → Int32 → Int32 → Int32 → Int32 → gz_H → Option (Int32 × gz_H)
  | 0, _, _, _, _, _, _, _ => none
  | n + 1, a0, x2, x3, x4, x5, x6, h =>
    gz_ck (gz_sh h a0 9 29) <|
    if (h.2.1 a0 3) ≤ x6 then (
     gz_b2 (fX9_has x2 x4 h) fun y_4 h_3 =>
     if y_4 = 0 then (
      fX9_share_86 k21 a0 x2 x4 x3 (0 : Int32) h_3
     ) else (
      gz_ck (gz_nzI x5) <|
      fX9_share_86 k21 a0 x2 x4 x3 ((60 : Int32) / x5) h_3
     )
    ) else (
     gz_b2 (fX9_toldBy a0 x6 h) fun y_8 h_7 =>
     fX9_share_36 k21 n a0 x2 x3 x4 (x5 + ((y_8 >>> (x4 &&& 31)) &&& (1 : Int32))) (x6 + 1) h_7
    )
set_option maxRecDepth 100000 in
set_option maxHeartbeats 1000000 in
theorem sX9_share_36 {G : gz_G} {d l0 s0 : Nat} {Q : Int32 → gz_H → Prop} {k21 : Nat → Int32 → Int32 → Int32 → gz_H → Option (Int32 × gz_H)} (hk21 : ∀ (a0 : Nat) (x2 : Int32) (x3 : Int32) (x4 : Int32) (h : gz_H), gz_g (k21 a0 x2 x3 x4 h) Q → gz_Ok G mX9_share (d + 4, l0, s0, 0, 0) 21 [.ref a0, .retAddr 0, .int x2, .int x3, .int x4, .retAddr 0, .retAddr 0] [] h (gz_qi Q)) : ∀ (n : Nat) (a0 : Nat) (x2 : Int32) (x3 : Int32) (x4 : Int32) (x5 : Int32) (x6 : Int32) (h : gz_H), gz_g (fX9_share_36 k21 n a0 x2 x3 x4 x5 x6 h) Q → gz_Ok G mX9_share (d + 4, l0, s0, 0, 0) 36 [.ref a0, .retAddr 0, .int x2, .int x3, .int x4, .int x5, .int x6] [] h (gz_qi Q) := by
  intro n
  induction n with
  | zero => intro a0 x2 x3 x4 x5 x6 h hf; exact False.elim hf
  | succ n ih =>
    intro a0 x2 x3 x4 x5 x6 h hf
    rw [fX9_share_36] at hf
    refine gz_iload (pc := 36) dX9_share_36 rfl ?_
    refine gz_aload_n (pc := 38) dX9_share_38 rfl rfl ?_
    refine gz_gk hf (fun c_1 hf => ?_)
    refine gz_getI (pc := 39) dX9_share_39 fl_RX9_158 rfl (gz_shs c_1) ?_
    refine gz_icmp_ge (tgt := 67) (pc := 42) dX9_share_42 rfl (fun c_2 => ?_) (fun c_2 => ?_)
    · have hf := gz_gT hf c_2
      refine gz_iload_n (pc := 67) dX9_share_67 rfl rfl ?_
      refine gz_iload_n (pc := 68) dX9_share_68 rfl rfl ?_
      refine gz_iload (pc := 69) dX9_share_69 rfl ?_
      refine gz_cSI (av := [.int x2, .int x4]) (st := [.int x3]) (pc := 71) dX9_share_71 kl_RX9_142 rfl rfl (Nat.le_of_ble_eq_true rfl) (by show d + 3 + 0 + 1 ≤ d + 4; omega) (sX9_has (d := d + 3) (gz_gc hf)) (fun y_4 h_3 hf => ?_)
      refine gz_if_eq (tgt := 85) (pc := 74) dX9_share_74 rfl (fun c_5 => ?_) (fun c_5 => ?_)
      · have hf := gz_gT hf c_5
        refine gz_iconst (v := (0 : Int32)) (pc := 85) dX9_share_85 rfl ?_
        refine gz_fg (lv := [.ref a0, .retAddr 0, .int x2, .retAddr 0, .int x4, .retAddr 0, .retAddr 0]) ⟨Or.inr rfl, ⟨Or.inl rfl, ⟨Or.inr rfl, ⟨Or.inl rfl, ⟨Or.inr rfl, ⟨Or.inl rfl, ⟨Or.inl rfl, trivial⟩⟩⟩⟩⟩⟩⟩ ?_
        exact sX9_share_86 hk21 a0 x2 x4 x3 (0 : Int32) h_3 hf
      · have hf := gz_gF hf c_5
        refine gz_bipush (v := (60 : Int32)) (pc := 77) dX9_share_77 rfl ?_
        refine gz_iload (pc := 79) dX9_share_79 rfl ?_
        refine gz_gk hf (fun c_6 hf => ?_)
        refine gz_idiv (pc := 81) dX9_share_81 (gz_nzIs c_6) ?_
        refine gz_goto (tgt := 86) (pc := 82) dX9_share_82 rfl ?_
        refine gz_fg (lv := [.ref a0, .retAddr 0, .int x2, .retAddr 0, .int x4, .retAddr 0, .retAddr 0]) ⟨Or.inr rfl, ⟨Or.inl rfl, ⟨Or.inr rfl, ⟨Or.inl rfl, ⟨Or.inr rfl, ⟨Or.inl rfl, ⟨Or.inl rfl, trivial⟩⟩⟩⟩⟩⟩⟩ ?_
        exact sX9_share_86 hk21 a0 x2 x4 x3 ((60 : Int32) / x5) h_3 hf
    · have hf := gz_gF hf c_2
      refine gz_iload (pc := 45) dX9_share_45 rfl ?_
      refine gz_aload_n (pc := 47) dX9_share_47 rfl rfl ?_
      refine gz_iload (pc := 48) dX9_share_48 rfl ?_
      refine gz_cVI (av := [.int x6]) (st := [.int x5]) (pc := 50) dX9_share_50 kl_RX9_213 rfl (gz_shs c_1) rfl rfl (Nat.le_of_ble_eq_true rfl) (by show d + 0 + 3 + 1 ≤ d + 4; omega) (sX9_toldBy (d := d + 0) (gz_gc hf)) (fun y_8 h_7 hf => ?_)
      refine gz_iload (pc := 53) dX9_share_53 rfl ?_
      refine gz_ishr (pc := 55) dX9_share_55 ?_
      refine gz_iconst (v := (1 : Int32)) (pc := 56) dX9_share_56 rfl ?_
      refine gz_iand (pc := 57) dX9_share_57 ?_
      refine gz_iadd (pc := 58) dX9_share_58 ?_
      refine gz_istore (lv := [.ref a0, .retAddr 0, .int x2, .int x3, .int x4, .int (x5 + ((y_8 >>> (x4 &&& 31)) &&& (1 : Int32))), .int x6]) (pc := 59) dX9_share_59 (by decide) rfl ?_
      refine gz_iinc (v := x6 + 1) (lv := [.ref a0, .retAddr 0, .int x2, .int x3, .int x4, .int (x5 + ((y_8 >>> (x4 &&& 31)) &&& (1 : Int32))), .int (x6 + 1)]) (pc := 61) dX9_share_61 rfl rfl (by decide) rfl ?_
      refine gz_goto (tgt := 36) (pc := 64) dX9_share_64 rfl ?_
      exact ih a0 x2 x3 x4 (x5 + ((y_8 >>> (x4 &&& 31)) &&& (1 : Int32))) (x6 + 1) h_7 hf
def fX9_share_21  : Nat → Nat → Int32 → Int32 → Int32 → gz_H → Option (Int32 × gz_H)
  | 0, _, _, _, _, _ => none
  | n + 1, a0, x2, x3, x4, h =>
    gz_ck (gz_sh h a0 9 29) <|
    if (h.2.1 a0 1) ≤ x4 then (
     gz_b2 (fX9_tellParts a0 x3.toInt64 (60 : Int64) h) fun y_4 h_3 =>
     some (y_4, h_3)
    ) else (
     fX9_share_36 (fun z0 z1 z2 z3 zh => fX9_share_21 n z0 z1 z2 z3 zh) gz_fu a0 x2 x3 x4 (0 : Int32) (0 : Int32) h
    )
set_option maxRecDepth 100000 in
set_option maxHeartbeats 1000000 in
theorem sX9_share_21 {G : gz_G} {d l0 s0 : Nat} {Q : Int32 → gz_H → Prop} : ∀ (n : Nat) (a0 : Nat) (x2 : Int32) (x3 : Int32) (x4 : Int32) (h : gz_H), gz_g (fX9_share_21  n a0 x2 x3 x4 h) Q → gz_Ok G mX9_share (d + 4, l0, s0, 0, 0) 21 [.ref a0, .retAddr 0, .int x2, .int x3, .int x4, .retAddr 0, .retAddr 0] [] h (gz_qi Q) := by
  intro n
  induction n with
  | zero => intro a0 x2 x3 x4 h hf; exact False.elim hf
  | succ n ih =>
    intro a0 x2 x3 x4 h hf
    rw [fX9_share_21] at hf
    refine gz_iload (pc := 21) dX9_share_21 rfl ?_
    refine gz_aload_n (pc := 23) dX9_share_23 rfl rfl ?_
    refine gz_gk hf (fun c_1 hf => ?_)
    refine gz_getI (pc := 24) dX9_share_24 fl_RX9_155 rfl (gz_shs c_1) ?_
    refine gz_icmp_ge (tgt := 94) (pc := 27) dX9_share_27 rfl (fun c_2 => ?_) (fun c_2 => ?_)
    · have hf := gz_gT hf c_2
      refine gz_aload_n (pc := 94) dX9_share_94 rfl rfl ?_
      refine gz_iload_n (pc := 95) dX9_share_95 rfl rfl ?_
      refine gz_i2l (pc := 96) dX9_share_96 ?_
      refine gz_ldc2 (v := (60 : Int64)) (pc := 97) dX9_share_97 kc_RX9_281 ?_
      refine gz_cVI (av := [.long x3.toInt64, .long (60 : Int64)]) (st := []) (pc := 100) dX9_share_100 kl_RX9_283 rfl (gz_shs c_1) rfl rfl (Nat.le_of_ble_eq_true rfl) (by show d + 3 + 0 + 1 ≤ d + 4; omega) (sX9_tellParts (d := d + 3) (gz_gc hf)) (fun y_4 h_3 hf => ?_)
      exact gz_irt (pc := 103) dX9_share_103 rfl rfl hf
    · have hf := gz_gF hf c_2
      refine gz_iconst (v := (0 : Int32)) (pc := 30) dX9_share_30 rfl ?_
      refine gz_istore (lv := [.ref a0, .retAddr 0, .int x2, .int x3, .int x4, .int (0 : Int32), .retAddr 0]) (pc := 31) dX9_share_31 (by decide) rfl ?_
      refine gz_iconst (v := (0 : Int32)) (pc := 33) dX9_share_33 rfl ?_
      refine gz_istore (lv := [.ref a0, .retAddr 0, .int x2, .int x3, .int x4, .int (0 : Int32), .int (0 : Int32)]) (pc := 34) dX9_share_34 (by decide) rfl ?_
      exact sX9_share_36 ih gz_fu a0 x2 x3 x4 (0 : Int32) (0 : Int32) h hf
def fX9_share_0  (a0 : Nat) (x1 : Int32) (h : gz_H) : Option (Int32 × gz_H) :=
    gz_ck (gz_sh h a0 9 29) <|
    gz_b2 (fX9_isGoose a0 x1 h) fun y_2 h_1 =>
    if y_2 = 0 then (
     some ((-1 : Int32), h_1)
    ) else (
     gz_ck (gz_sh h_1 a0 9 29) <|
     gz_b2 (fX9_toldBy a0 x1 h_1) fun y_6 h_5 =>
     fX9_share_21 gz_fu a0 y_6 (0 : Int32) (0 : Int32) h_5
    )
set_option maxRecDepth 100000 in
set_option maxHeartbeats 1000000 in
theorem sX9_share_0 {G : gz_G} {d l0 s0 : Nat} {Q : Int32 → gz_H → Prop} (a0 : Nat) (x1 : Int32) (h : gz_H) (hf : gz_g (fX9_share_0  a0 x1 h) Q) : gz_Ok G mX9_share (d + 4, l0, s0, 0, 0) 0 [.ref a0, .int x1, .retAddr 0, .retAddr 0, .retAddr 0, .retAddr 0, .retAddr 0] [] h (gz_qi Q) := by
  unfold fX9_share_0 at hf
  refine gz_aload_n (pc := 0) dX9_share_0 rfl rfl ?_
  refine gz_iload_n (pc := 1) dX9_share_1 rfl rfl ?_
  refine gz_gk hf (fun c_3 hf => ?_)
  refine gz_cVI (av := [.int x1]) (st := []) (pc := 2) dX9_share_2 kl_RX9_196 rfl (gz_shs c_3) rfl rfl (Nat.le_of_ble_eq_true rfl) (by show d + 2 + 1 + 1 ≤ d + 4; omega) (sX9_isGoose (d := d + 2) (gz_gc hf)) (fun y_2 h_1 hf => ?_)
  refine gz_if_ne (tgt := 10) (pc := 5) dX9_share_5 rfl (fun c_4 => ?_) (fun c_4 => ?_)
  · have hf := gz_gF hf c_4
    refine gz_aload_n (pc := 10) dX9_share_10 rfl rfl ?_
    refine gz_iload_n (pc := 11) dX9_share_11 rfl rfl ?_
    refine gz_gk hf (fun c_7 hf => ?_)
    refine gz_cVI (av := [.int x1]) (st := []) (pc := 12) dX9_share_12 kl_RX9_213 rfl (gz_shs c_7) rfl rfl (Nat.le_of_ble_eq_true rfl) (by show d + 0 + 3 + 1 ≤ d + 4; omega) (sX9_toldBy (d := d + 0) (gz_gc hf)) (fun y_6 h_5 hf => ?_)
    refine gz_istore_n (lv := [.ref a0, .int x1, .int y_6, .retAddr 0, .retAddr 0, .retAddr 0, .retAddr 0]) (pc := 15) dX9_share_15 rfl (by decide) rfl ?_
    refine gz_iconst (v := (0 : Int32)) (pc := 16) dX9_share_16 rfl ?_
    refine gz_istore_n (lv := [.ref a0, .int x1, .int y_6, .int (0 : Int32), .retAddr 0, .retAddr 0, .retAddr 0]) (pc := 17) dX9_share_17 rfl (by decide) rfl ?_
    refine gz_iconst (v := (0 : Int32)) (pc := 18) dX9_share_18 rfl ?_
    refine gz_istore (lv := [.ref a0, .int x1, .int y_6, .int (0 : Int32), .int (0 : Int32), .retAddr 0, .retAddr 0]) (pc := 19) dX9_share_19 (by decide) rfl ?_
    refine gz_fg (lv := [.ref a0, .retAddr 0, .int y_6, .int (0 : Int32), .int (0 : Int32), .retAddr 0, .retAddr 0]) ⟨Or.inr rfl, ⟨Or.inl rfl, ⟨Or.inr rfl, ⟨Or.inr rfl, ⟨Or.inr rfl, ⟨Or.inl rfl, ⟨Or.inl rfl, trivial⟩⟩⟩⟩⟩⟩⟩ ?_
    exact sX9_share_21 gz_fu a0 y_6 (0 : Int32) (0 : Int32) h_5 hf
  · have hf := gz_gT hf c_4
    refine gz_iconst (v := (-1 : Int32)) (pc := 8) dX9_share_8 rfl ?_
    exact gz_irt (pc := 9) dX9_share_9 rfl rfl hf
def fX9_share (a0 : Nat) (x1 : Int32) (h : gz_H) : Option (Int32 × gz_H) := fX9_share_0 a0 x1 h
theorem sX9_share {G : gz_G} {d : Nat} {a0 : Nat} {x1 : Int32} {h : gz_H} {Q : Int32 → gz_H → Prop} (hf : gz_g (fX9_share a0 x1 h) Q) : gz_Cl G mX9_share (d + 4) 0 0 [.ref a0, .int x1] h (gz_qi Q) := gz_cl_of (lo := [.ref a0, .int x1, .retAddr 0, .retAddr 0, .retAddr 0, .retAddr 0, .retAddr 0]) (by decide) rfl rfl (Nat.le_of_ble_eq_true rfl) (sX9_share_0 a0 x1 h hf)
theorem dX9_noPairs_0 : decode cX9_noPairs 0 = .ok (.aload_n 0, 1) := by decide +kernel
theorem dX9_noPairs_1 : decode cX9_noPairs 1 = .ok (.getfield 25, 3) := by decide +kernel
theorem dX9_noPairs_4 : decode cX9_noPairs 4 = .ok (.iload_n 1, 1) := by decide +kernel
theorem dX9_noPairs_5 : decode cX9_noPairs 5 = .ok (.iaload, 1) := by decide +kernel
theorem dX9_noPairs_6 : decode cX9_noPairs 6 = .ok (.ifCond .ge 9, 3) := by decide +kernel
theorem dX9_noPairs_9 : decode cX9_noPairs 9 = .ok (.aload_n 0, 1) := by decide +kernel
theorem dX9_noPairs_10 : decode cX9_noPairs 10 = .ok (.iconst 1, 1) := by decide +kernel
theorem dX9_noPairs_11 : decode cX9_noPairs 11 = .ok (.invokevirtual 84, 3) := by decide +kernel
theorem dX9_noPairs_14 : decode cX9_noPairs 14 = .ok (.ireturn, 1) := by decide +kernel
theorem dX9_noPairs_15 : decode cX9_noPairs 15 = .ok (.aload_n 0, 1) := by decide +kernel
theorem dX9_noPairs_16 : decode cX9_noPairs 16 = .ok (.getfield 25, 3) := by decide +kernel
theorem dX9_noPairs_19 : decode cX9_noPairs 19 = .ok (.iload_n 1, 1) := by decide +kernel
theorem dX9_noPairs_20 : decode cX9_noPairs 20 = .ok (.iaload, 1) := by decide +kernel
theorem dX9_noPairs_21 : decode cX9_noPairs 21 = .ok (.iconst 2, 1) := by decide +kernel
theorem dX9_noPairs_22 : decode cX9_noPairs 22 = .ok (.irem, 1) := by decide +kernel
theorem dX9_noPairs_23 : decode cX9_noPairs 23 = .ok (.ifCond .eq 9, 3) := by decide +kernel
theorem dX9_noPairs_26 : decode cX9_noPairs 26 = .ok (.aload_n 0, 1) := by decide +kernel
theorem dX9_noPairs_27 : decode cX9_noPairs 27 = .ok (.iconst 5, 1) := by decide +kernel
theorem dX9_noPairs_28 : decode cX9_noPairs 28 = .ok (.invokevirtual 84, 3) := by decide +kernel
theorem dX9_noPairs_31 : decode cX9_noPairs 31 = .ok (.ireturn, 1) := by decide +kernel
theorem dX9_noPairs_32 : decode cX9_noPairs 32 = .ok (.iconst 1, 1) := by decide +kernel
theorem dX9_noPairs_33 : decode cX9_noPairs 33 = .ok (.istore_n 2, 1) := by decide +kernel
theorem dX9_noPairs_34 : decode cX9_noPairs 34 = .ok (.iconst 0, 1) := by decide +kernel
theorem dX9_noPairs_35 : decode cX9_noPairs 35 = .ok (.istore_n 3, 1) := by decide +kernel
theorem dX9_noPairs_36 : decode cX9_noPairs 36 = .ok (.iload_n 3, 1) := by decide +kernel
theorem dX9_noPairs_37 : decode cX9_noPairs 37 = .ok (.aload_n 0, 1) := by decide +kernel
theorem dX9_noPairs_38 : decode cX9_noPairs 38 = .ok (.getfield 25, 3) := by decide +kernel
theorem dX9_noPairs_41 : decode cX9_noPairs 41 = .ok (.iload_n 1, 1) := by decide +kernel
theorem dX9_noPairs_42 : decode cX9_noPairs 42 = .ok (.iaload, 1) := by decide +kernel
theorem dX9_noPairs_43 : decode cX9_noPairs 43 = .ok (.if_icmp .ge 56, 3) := by decide +kernel
theorem dX9_noPairs_46 : decode cX9_noPairs 46 = .ok (.iload_n 2, 1) := by decide +kernel
theorem dX9_noPairs_47 : decode cX9_noPairs 47 = .ok (.ifCond .eq 44, 3) := by decide +kernel
theorem dX9_noPairs_50 : decode cX9_noPairs 50 = .ok (.aload_n 0, 1) := by decide +kernel
theorem dX9_noPairs_51 : decode cX9_noPairs 51 = .ok (.getfield 28, 3) := by decide +kernel
theorem dX9_noPairs_54 : decode cX9_noPairs 54 = .ok (.bipush 40, 2) := by decide +kernel
theorem dX9_noPairs_56 : decode cX9_noPairs 56 = .ok (.iload_n 1, 1) := by decide +kernel
theorem dX9_noPairs_57 : decode cX9_noPairs 57 = .ok (.imul, 1) := by decide +kernel
theorem dX9_noPairs_58 : decode cX9_noPairs 58 = .ok (.iload_n 3, 1) := by decide +kernel
theorem dX9_noPairs_59 : decode cX9_noPairs 59 = .ok (.iadd, 1) := by decide +kernel
theorem dX9_noPairs_60 : decode cX9_noPairs 60 = .ok (.iaload, 1) := by decide +kernel
theorem dX9_noPairs_61 : decode cX9_noPairs 61 = .ok (.invokestatic 245, 3) := by decide +kernel
theorem dX9_noPairs_64 : decode cX9_noPairs 64 = .ok (.ifCond .eq 27, 3) := by decide +kernel
theorem dX9_noPairs_67 : decode cX9_noPairs 67 = .ok (.aload_n 0, 1) := by decide +kernel
theorem dX9_noPairs_68 : decode cX9_noPairs 68 = .ok (.aload_n 0, 1) := by decide +kernel
theorem dX9_noPairs_69 : decode cX9_noPairs 69 = .ok (.getfield 28, 3) := by decide +kernel
theorem dX9_noPairs_72 : decode cX9_noPairs 72 = .ok (.bipush 40, 2) := by decide +kernel
theorem dX9_noPairs_74 : decode cX9_noPairs 74 = .ok (.iload_n 1, 1) := by decide +kernel
theorem dX9_noPairs_75 : decode cX9_noPairs 75 = .ok (.imul, 1) := by decide +kernel
theorem dX9_noPairs_76 : decode cX9_noPairs 76 = .ok (.iload_n 3, 1) := by decide +kernel
theorem dX9_noPairs_77 : decode cX9_noPairs 77 = .ok (.iadd, 1) := by decide +kernel
theorem dX9_noPairs_78 : decode cX9_noPairs 78 = .ok (.iconst 1, 1) := by decide +kernel
theorem dX9_noPairs_79 : decode cX9_noPairs 79 = .ok (.iadd, 1) := by decide +kernel
theorem dX9_noPairs_80 : decode cX9_noPairs 80 = .ok (.iaload, 1) := by decide +kernel
theorem dX9_noPairs_81 : decode cX9_noPairs 81 = .ok (.invokevirtual 257, 3) := by decide +kernel
theorem dX9_noPairs_84 : decode cX9_noPairs 84 = .ok (.ifCond .eq 7, 3) := by decide +kernel
theorem dX9_noPairs_87 : decode cX9_noPairs 87 = .ok (.iconst 1, 1) := by decide +kernel
theorem dX9_noPairs_88 : decode cX9_noPairs 88 = .ok (.goto 4, 3) := by decide +kernel
theorem dX9_noPairs_91 : decode cX9_noPairs 91 = .ok (.iconst 0, 1) := by decide +kernel
theorem dX9_noPairs_92 : decode cX9_noPairs 92 = .ok (.istore_n 2, 1) := by decide +kernel
theorem dX9_noPairs_93 : decode cX9_noPairs 93 = .ok (.iinc 3 2, 3) := by decide +kernel
theorem dX9_noPairs_96 : decode cX9_noPairs 96 = .ok (.goto (-60), 3) := by decide +kernel
theorem dX9_noPairs_99 : decode cX9_noPairs 99 = .ok (.iload_n 2, 1) := by decide +kernel
theorem dX9_noPairs_100 : decode cX9_noPairs 100 = .ok (.ifCond .eq 7, 3) := by decide +kernel
theorem dX9_noPairs_103 : decode cX9_noPairs 103 = .ok (.iconst 0, 1) := by decide +kernel
theorem dX9_noPairs_104 : decode cX9_noPairs 104 = .ok (.goto 8, 3) := by decide +kernel
theorem dX9_noPairs_107 : decode cX9_noPairs 107 = .ok (.aload_n 0, 1) := by decide +kernel
theorem dX9_noPairs_108 : decode cX9_noPairs 108 = .ok (.iconst 3, 1) := by decide +kernel
theorem dX9_noPairs_109 : decode cX9_noPairs 109 = .ok (.invokevirtual 84, 3) := by decide +kernel
theorem dX9_noPairs_112 : decode cX9_noPairs 112 = .ok (.ireturn, 1) := by decide +kernel
def fX9_noPairs_92 (k36 : Nat → Int32 → Int32 → Int32 → gz_H → Option (Int32 × gz_H)) (a0 : Nat) (x1 : Int32) (x3 : Int32) (w0 : Int32) (h : gz_H) : Option (Int32 × gz_H) :=
    k36 a0 x1 w0 (x3 + 2) h
set_option maxRecDepth 100000 in
set_option maxHeartbeats 1000000 in
theorem sX9_noPairs_92 {G : gz_G} {d l0 s0 : Nat} {Q : Int32 → gz_H → Prop} {k36 : Nat → Int32 → Int32 → Int32 → gz_H → Option (Int32 × gz_H)} (hk36 : ∀ (a0 : Nat) (x1 : Int32) (x2 : Int32) (x3 : Int32) (h : gz_H), gz_g (k36 a0 x1 x2 x3 h) Q → gz_Ok G mX9_noPairs (d + 2, l0, s0, 0, 0) 36 [.ref a0, .int x1, .int x2, .int x3] [] h (gz_qi Q)) (a0 : Nat) (x1 : Int32) (x3 : Int32) (w0 : Int32) (h : gz_H) (hf : gz_g (fX9_noPairs_92 k36 a0 x1 x3 w0 h) Q) : gz_Ok G mX9_noPairs (d + 2, l0, s0, 0, 0) 92 [.ref a0, .int x1, .retAddr 0, .int x3] [.int w0] h (gz_qi Q) := by
  unfold fX9_noPairs_92 at hf
  refine gz_istore_n (lv := [.ref a0, .int x1, .int w0, .int x3]) (pc := 92) dX9_noPairs_92 rfl (by decide) rfl ?_
  refine gz_iinc (v := x3 + 2) (lv := [.ref a0, .int x1, .int w0, .int (x3 + 2)]) (pc := 93) dX9_noPairs_93 rfl rfl (by decide) rfl ?_
  refine gz_goto (tgt := 36) (pc := 96) dX9_noPairs_96 rfl ?_
  exact hk36 a0 x1 w0 (x3 + 2) h hf
def fX9_noPairs_91 (k36 : Nat → Int32 → Int32 → Int32 → gz_H → Option (Int32 × gz_H)) (a0 : Nat) (x1 : Int32) (x3 : Int32) (h : gz_H) : Option (Int32 × gz_H) :=
    fX9_noPairs_92 k36 a0 x1 x3 (0 : Int32) h
set_option maxRecDepth 100000 in
set_option maxHeartbeats 1000000 in
theorem sX9_noPairs_91 {G : gz_G} {d l0 s0 : Nat} {Q : Int32 → gz_H → Prop} {k36 : Nat → Int32 → Int32 → Int32 → gz_H → Option (Int32 × gz_H)} (hk36 : ∀ (a0 : Nat) (x1 : Int32) (x2 : Int32) (x3 : Int32) (h : gz_H), gz_g (k36 a0 x1 x2 x3 h) Q → gz_Ok G mX9_noPairs (d + 2, l0, s0, 0, 0) 36 [.ref a0, .int x1, .int x2, .int x3] [] h (gz_qi Q)) (a0 : Nat) (x1 : Int32) (x3 : Int32) (h : gz_H) (hf : gz_g (fX9_noPairs_91 k36 a0 x1 x3 h) Q) : gz_Ok G mX9_noPairs (d + 2, l0, s0, 0, 0) 91 [.ref a0, .int x1, .retAddr 0, .int x3] [] h (gz_qi Q) := by
  unfold fX9_noPairs_91 at hf
  refine gz_iconst (v := (0 : Int32)) (pc := 91) dX9_noPairs_91 rfl ?_
  exact sX9_noPairs_92 hk36 a0 x1 x3 (0 : Int32) h hf
def fX9_noPairs_36  : Nat → Nat → Int32 → Int32 → Int32 → gz_H → Option (Int32 × gz_H)
  | 0, _, _, _, _, _ => none
  | n + 1, a0, x1, x2, x3, h =>
    gz_ck (gz_sh h a0 9 29) <|
    gz_br (h.2.2.2 a0 7) fun r_2 =>
    gz_ck (gz_inb h r_2 10 x1) <|
    if (h.2.1 r_2 x1.toNatClampNeg) ≤ x3 then (
     if x2 = 0 then (
      gz_b2 (fX9_find a0 (3 : Int32) h) fun y_7 h_6 =>
      some (y_7, h_6)
     ) else (
      some ((0 : Int32), h)
     )
    ) else (
     if x2 = 0 then (
      fX9_noPairs_91 (fun z0 z1 z2 z3 zh => fX9_noPairs_36 n z0 z1 z2 z3 zh) a0 x1 x3 h
     ) else (
      gz_br (h.2.2.2 a0 8) fun r_9 =>
      gz_ck (gz_inb h r_9 10 (((40 : Int32) * x1) + x3)) <|
      gz_b2 (fX9_isPlace (h.2.1 r_9 (((40 : Int32) * x1) + x3).toNatClampNeg) h) fun y_12 h_11 =>
      if y_12 = 0 then (
       fX9_noPairs_91 (fun z0 z1 z2 z3 zh => fX9_noPairs_36 n z0 z1 z2 z3 zh) a0 x1 x3 h_11
      ) else (
       gz_ck (gz_sh h_11 a0 9 29) <|
       gz_br (h_11.2.2.2 a0 8) fun r_15 =>
       gz_ck (gz_inb h_11 r_15 10 ((((40 : Int32) * x1) + x3) + (1 : Int32))) <|
       gz_b2 (fX9_isSet a0 (h_11.2.1 r_15 ((((40 : Int32) * x1) + x3) + (1 : Int32)).toNatClampNeg) h_11) fun y_18 h_17 =>
       if y_18 = 0 then (
        fX9_noPairs_91 (fun z0 z1 z2 z3 zh => fX9_noPairs_36 n z0 z1 z2 z3 zh) a0 x1 x3 h_17
       ) else (
        fX9_noPairs_92 (fun z0 z1 z2 z3 zh => fX9_noPairs_36 n z0 z1 z2 z3 zh) a0 x1 x3 (1 : Int32) h_17
       )
      )
     )
    )
set_option maxRecDepth 100000 in
set_option maxHeartbeats 1000000 in
theorem sX9_noPairs_36 {G : gz_G} {d l0 s0 : Nat} {Q : Int32 → gz_H → Prop} : ∀ (n : Nat) (a0 : Nat) (x1 : Int32) (x2 : Int32) (x3 : Int32) (h : gz_H), gz_g (fX9_noPairs_36  n a0 x1 x2 x3 h) Q → gz_Ok G mX9_noPairs (d + 2, l0, s0, 0, 0) 36 [.ref a0, .int x1, .int x2, .int x3] [] h (gz_qi Q) := by
  intro n
  induction n with
  | zero => intro a0 x1 x2 x3 h hf; exact False.elim hf
  | succ n ih =>
    intro a0 x1 x2 x3 h hf
    rw [fX9_noPairs_36] at hf
    refine gz_iload_n (pc := 36) dX9_noPairs_36 rfl rfl ?_
    refine gz_aload_n (pc := 37) dX9_noPairs_37 rfl rfl ?_
    refine gz_gk hf (fun c_1 hf => ?_)
    refine gz_gb hf (fun r_2 er_2 hf => ?_)
    refine gz_getR (pc := 38) dX9_noPairs_38 fl_RX9_25 rfl (gz_shs c_1) er_2 ?_
    refine gz_iload_n (pc := 41) dX9_noPairs_41 rfl rfl ?_
    refine gz_gk hf (fun c_3 hf => ?_)
    refine gz_iald (pc := 42) dX9_noPairs_42 c_3 ?_
    refine gz_icmp_ge (tgt := 99) (pc := 43) dX9_noPairs_43 rfl (fun c_4 => ?_) (fun c_4 => ?_)
    · have hf := gz_gT hf c_4
      refine gz_iload_n (pc := 99) dX9_noPairs_99 rfl rfl ?_
      refine gz_if_eq (tgt := 107) (pc := 100) dX9_noPairs_100 rfl (fun c_5 => ?_) (fun c_5 => ?_)
      · have hf := gz_gT hf c_5
        refine gz_aload_n (pc := 107) dX9_noPairs_107 rfl rfl ?_
        refine gz_iconst (v := (3 : Int32)) (pc := 108) dX9_noPairs_108 rfl ?_
        refine gz_cVI (av := [.int (3 : Int32)]) (st := []) (pc := 109) dX9_noPairs_109 kl_RX9_84 rfl (gz_shs c_1) rfl rfl (Nat.le_of_ble_eq_true rfl) (by show d + 1 + 0 + 1 ≤ d + 2; omega) (sX9_find (d := d + 1) (gz_gc hf)) (fun y_7 h_6 hf => ?_)
        exact gz_irt (pc := 112) dX9_noPairs_112 rfl rfl hf
      · have hf := gz_gF hf c_5
        refine gz_iconst (v := (0 : Int32)) (pc := 103) dX9_noPairs_103 rfl ?_
        refine gz_goto (tgt := 112) (pc := 104) dX9_noPairs_104 rfl ?_
        exact gz_irt (pc := 112) dX9_noPairs_112 rfl rfl hf
    · have hf := gz_gF hf c_4
      refine gz_iload_n (pc := 46) dX9_noPairs_46 rfl rfl ?_
      refine gz_if_eq (tgt := 91) (pc := 47) dX9_noPairs_47 rfl (fun c_8 => ?_) (fun c_8 => ?_)
      · have hf := gz_gT hf c_8
        refine gz_fg (lv := [.ref a0, .int x1, .retAddr 0, .int x3]) ⟨Or.inr rfl, ⟨Or.inr rfl, ⟨Or.inl rfl, ⟨Or.inr rfl, trivial⟩⟩⟩⟩ ?_
        exact sX9_noPairs_91 ih a0 x1 x3 h hf
      · have hf := gz_gF hf c_8
        refine gz_aload_n (pc := 50) dX9_noPairs_50 rfl rfl ?_
        refine gz_gb hf (fun r_9 er_9 hf => ?_)
        refine gz_getR (pc := 51) dX9_noPairs_51 fl_RX9_28 rfl (gz_shs c_1) er_9 ?_
        refine gz_bipush (v := (40 : Int32)) (pc := 54) dX9_noPairs_54 rfl ?_
        refine gz_iload_n (pc := 56) dX9_noPairs_56 rfl rfl ?_
        refine gz_imul (pc := 57) dX9_noPairs_57 ?_
        refine gz_iload_n (pc := 58) dX9_noPairs_58 rfl rfl ?_
        refine gz_iadd (pc := 59) dX9_noPairs_59 ?_
        refine gz_gk hf (fun c_10 hf => ?_)
        refine gz_iald (pc := 60) dX9_noPairs_60 c_10 ?_
        refine gz_cSI (av := [.int (h.2.1 r_9 (((40 : Int32) * x1) + x3).toNatClampNeg)]) (st := []) (pc := 61) dX9_noPairs_61 kl_RX9_245 rfl rfl (Nat.le_of_ble_eq_true rfl) (by show d + 0 + 1 + 1 ≤ d + 2; omega) (sX9_isPlace (d := d + 0) (gz_gc hf)) (fun y_12 h_11 hf => ?_)
        refine gz_if_eq (tgt := 91) (pc := 64) dX9_noPairs_64 rfl (fun c_13 => ?_) (fun c_13 => ?_)
        · have hf := gz_gT hf c_13
          refine gz_fg (lv := [.ref a0, .int x1, .retAddr 0, .int x3]) ⟨Or.inr rfl, ⟨Or.inr rfl, ⟨Or.inl rfl, ⟨Or.inr rfl, trivial⟩⟩⟩⟩ ?_
          exact sX9_noPairs_91 ih a0 x1 x3 h_11 hf
        · have hf := gz_gF hf c_13
          refine gz_aload_n (pc := 67) dX9_noPairs_67 rfl rfl ?_
          refine gz_aload_n (pc := 68) dX9_noPairs_68 rfl rfl ?_
          refine gz_gk hf (fun c_14 hf => ?_)
          refine gz_gb hf (fun r_15 er_15 hf => ?_)
          refine gz_getR (pc := 69) dX9_noPairs_69 fl_RX9_28 rfl (gz_shs c_14) er_15 ?_
          refine gz_bipush (v := (40 : Int32)) (pc := 72) dX9_noPairs_72 rfl ?_
          refine gz_iload_n (pc := 74) dX9_noPairs_74 rfl rfl ?_
          refine gz_imul (pc := 75) dX9_noPairs_75 ?_
          refine gz_iload_n (pc := 76) dX9_noPairs_76 rfl rfl ?_
          refine gz_iadd (pc := 77) dX9_noPairs_77 ?_
          refine gz_iconst (v := (1 : Int32)) (pc := 78) dX9_noPairs_78 rfl ?_
          refine gz_iadd (pc := 79) dX9_noPairs_79 ?_
          refine gz_gk hf (fun c_16 hf => ?_)
          refine gz_iald (pc := 80) dX9_noPairs_80 c_16 ?_
          refine gz_cVI (av := [.int (h_11.2.1 r_15 ((((40 : Int32) * x1) + x3) + (1 : Int32)).toNatClampNeg)]) (st := []) (pc := 81) dX9_noPairs_81 kl_RX9_257 rfl (gz_shs c_14) rfl rfl (Nat.le_of_ble_eq_true rfl) (by show d + 0 + 1 + 1 ≤ d + 2; omega) (sX9_isSet (d := d + 0) (gz_gc hf)) (fun y_18 h_17 hf => ?_)
          refine gz_if_eq (tgt := 91) (pc := 84) dX9_noPairs_84 rfl (fun c_19 => ?_) (fun c_19 => ?_)
          · have hf := gz_gT hf c_19
            refine gz_fg (lv := [.ref a0, .int x1, .retAddr 0, .int x3]) ⟨Or.inr rfl, ⟨Or.inr rfl, ⟨Or.inl rfl, ⟨Or.inr rfl, trivial⟩⟩⟩⟩ ?_
            exact sX9_noPairs_91 ih a0 x1 x3 h_17 hf
          · have hf := gz_gF hf c_19
            refine gz_iconst (v := (1 : Int32)) (pc := 87) dX9_noPairs_87 rfl ?_
            refine gz_goto (tgt := 92) (pc := 88) dX9_noPairs_88 rfl ?_
            refine gz_fg (lv := [.ref a0, .int x1, .retAddr 0, .int x3]) ⟨Or.inr rfl, ⟨Or.inr rfl, ⟨Or.inl rfl, ⟨Or.inr rfl, trivial⟩⟩⟩⟩ ?_
            exact sX9_noPairs_92 ih a0 x1 x3 (1 : Int32) h_17 hf
def fX9_noPairs_0  (a0 : Nat) (x1 : Int32) (h : gz_H) : Option (Int32 × gz_H) :=
    gz_ck (gz_sh h a0 9 29) <|
    gz_br (h.2.2.2 a0 7) fun r_2 =>
    gz_ck (gz_inb h r_2 10 x1) <|
    if 0 ≤ (h.2.1 r_2 x1.toNatClampNeg) then (
     if ((h.2.1 r_2 x1.toNatClampNeg) - (h.2.1 r_2 x1.toNatClampNeg) / (2 : Int32) * (2 : Int32)) = 0 then (
      fX9_noPairs_36 gz_fu a0 x1 (1 : Int32) (0 : Int32) h
     ) else (
      gz_b2 (fX9_find a0 (5 : Int32) h) fun y_7 h_6 =>
      some (y_7, h_6)
     )
    ) else (
     gz_b2 (fX9_find a0 (1 : Int32) h) fun y_9 h_8 =>
     some (y_9, h_8)
    )
set_option maxRecDepth 100000 in
set_option maxHeartbeats 1000000 in
theorem sX9_noPairs_0 {G : gz_G} {d l0 s0 : Nat} {Q : Int32 → gz_H → Prop} (a0 : Nat) (x1 : Int32) (h : gz_H) (hf : gz_g (fX9_noPairs_0  a0 x1 h) Q) : gz_Ok G mX9_noPairs (d + 2, l0, s0, 0, 0) 0 [.ref a0, .int x1, .retAddr 0, .retAddr 0] [] h (gz_qi Q) := by
  unfold fX9_noPairs_0 at hf
  refine gz_aload_n (pc := 0) dX9_noPairs_0 rfl rfl ?_
  refine gz_gk hf (fun c_1 hf => ?_)
  refine gz_gb hf (fun r_2 er_2 hf => ?_)
  refine gz_getR (pc := 1) dX9_noPairs_1 fl_RX9_25 rfl (gz_shs c_1) er_2 ?_
  refine gz_iload_n (pc := 4) dX9_noPairs_4 rfl rfl ?_
  refine gz_gk hf (fun c_3 hf => ?_)
  refine gz_iald (pc := 5) dX9_noPairs_5 c_3 ?_
  refine gz_if_ge (tgt := 15) (pc := 6) dX9_noPairs_6 rfl (fun c_4 => ?_) (fun c_4 => ?_)
  · have hf := gz_gT hf c_4
    refine gz_aload_n (pc := 15) dX9_noPairs_15 rfl rfl ?_
    refine gz_getR (pc := 16) dX9_noPairs_16 fl_RX9_25 rfl (gz_shs c_1) er_2 ?_
    refine gz_iload_n (pc := 19) dX9_noPairs_19 rfl rfl ?_
    refine gz_iald (pc := 20) dX9_noPairs_20 c_3 ?_
    refine gz_iconst (v := (2 : Int32)) (pc := 21) dX9_noPairs_21 rfl ?_
    refine gz_irem (pc := 22) dX9_noPairs_22 (by decide) ?_
    refine gz_if_eq (tgt := 32) (pc := 23) dX9_noPairs_23 rfl (fun c_5 => ?_) (fun c_5 => ?_)
    · have hf := gz_gT hf c_5
      refine gz_iconst (v := (1 : Int32)) (pc := 32) dX9_noPairs_32 rfl ?_
      refine gz_istore_n (lv := [.ref a0, .int x1, .int (1 : Int32), .retAddr 0]) (pc := 33) dX9_noPairs_33 rfl (by decide) rfl ?_
      refine gz_iconst (v := (0 : Int32)) (pc := 34) dX9_noPairs_34 rfl ?_
      refine gz_istore_n (lv := [.ref a0, .int x1, .int (1 : Int32), .int (0 : Int32)]) (pc := 35) dX9_noPairs_35 rfl (by decide) rfl ?_
      exact sX9_noPairs_36 gz_fu a0 x1 (1 : Int32) (0 : Int32) h hf
    · have hf := gz_gF hf c_5
      refine gz_aload_n (pc := 26) dX9_noPairs_26 rfl rfl ?_
      refine gz_iconst (v := (5 : Int32)) (pc := 27) dX9_noPairs_27 rfl ?_
      refine gz_cVI (av := [.int (5 : Int32)]) (st := []) (pc := 28) dX9_noPairs_28 kl_RX9_84 rfl (gz_shs c_1) rfl rfl (Nat.le_of_ble_eq_true rfl) (by show d + 1 + 0 + 1 ≤ d + 2; omega) (sX9_find (d := d + 1) (gz_gc hf)) (fun y_7 h_6 hf => ?_)
      exact gz_irt (pc := 31) dX9_noPairs_31 rfl rfl hf
  · have hf := gz_gF hf c_4
    refine gz_aload_n (pc := 9) dX9_noPairs_9 rfl rfl ?_
    refine gz_iconst (v := (1 : Int32)) (pc := 10) dX9_noPairs_10 rfl ?_
    refine gz_cVI (av := [.int (1 : Int32)]) (st := []) (pc := 11) dX9_noPairs_11 kl_RX9_84 rfl (gz_shs c_1) rfl rfl (Nat.le_of_ble_eq_true rfl) (by show d + 1 + 0 + 1 ≤ d + 2; omega) (sX9_find (d := d + 1) (gz_gc hf)) (fun y_9 h_8 hf => ?_)
    exact gz_irt (pc := 14) dX9_noPairs_14 rfl rfl hf
def fX9_noPairs (a0 : Nat) (x1 : Int32) (h : gz_H) : Option (Int32 × gz_H) := fX9_noPairs_0 a0 x1 h
theorem sX9_noPairs {G : gz_G} {d : Nat} {a0 : Nat} {x1 : Int32} {h : gz_H} {Q : Int32 → gz_H → Prop} (hf : gz_g (fX9_noPairs a0 x1 h) Q) : gz_Cl G mX9_noPairs (d + 2) 0 0 [.ref a0, .int x1] h (gz_qi Q) := gz_cl_of (lo := [.ref a0, .int x1, .retAddr 0, .retAddr 0]) (by decide) rfl rfl (Nat.le_of_ble_eq_true rfl) (sX9_noPairs_0 a0 x1 h hf)
theorem dX9_isSo_0 : decode cX9_isSo 0 = .ok (.iconst 1, 1) := by decide +kernel
theorem dX9_isSo_1 : decode cX9_isSo 1 = .ok (.istore 4, 2) := by decide +kernel
theorem dX9_isSo_3 : decode cX9_isSo 3 = .ok (.iconst 0, 1) := by decide +kernel
theorem dX9_isSo_4 : decode cX9_isSo 4 = .ok (.istore 5, 2) := by decide +kernel
theorem dX9_isSo_6 : decode cX9_isSo 6 = .ok (.iload 5, 2) := by decide +kernel
theorem dX9_isSo_8 : decode cX9_isSo 8 = .ok (.aload_n 0, 1) := by decide +kernel
theorem dX9_isSo_9 : decode cX9_isSo 9 = .ok (.getfield 25, 3) := by decide +kernel
theorem dX9_isSo_12 : decode cX9_isSo 12 = .ok (.iload_n 3, 1) := by decide +kernel
theorem dX9_isSo_13 : decode cX9_isSo 13 = .ok (.iaload, 1) := by decide +kernel
theorem dX9_isSo_14 : decode cX9_isSo 14 = .ok (.if_icmp .ge 56, 3) := by decide +kernel
theorem dX9_isSo_17 : decode cX9_isSo 17 = .ok (.iload 4, 2) := by decide +kernel
theorem dX9_isSo_19 : decode cX9_isSo 19 = .ok (.ifCond .eq 51, 3) := by decide +kernel
theorem dX9_isSo_22 : decode cX9_isSo 22 = .ok (.aload_n 0, 1) := by decide +kernel
theorem dX9_isSo_23 : decode cX9_isSo 23 = .ok (.iload_n 1, 1) := by decide +kernel
theorem dX9_isSo_24 : decode cX9_isSo 24 = .ok (.iload_n 2, 1) := by decide +kernel
theorem dX9_isSo_25 : decode cX9_isSo 25 = .ok (.aload_n 0, 1) := by decide +kernel
theorem dX9_isSo_26 : decode cX9_isSo 26 = .ok (.getfield 28, 3) := by decide +kernel
theorem dX9_isSo_29 : decode cX9_isSo 29 = .ok (.bipush 40, 2) := by decide +kernel
theorem dX9_isSo_31 : decode cX9_isSo 31 = .ok (.iload_n 3, 1) := by decide +kernel
theorem dX9_isSo_32 : decode cX9_isSo 32 = .ok (.imul, 1) := by decide +kernel
theorem dX9_isSo_33 : decode cX9_isSo 33 = .ok (.iload 5, 2) := by decide +kernel
theorem dX9_isSo_35 : decode cX9_isSo 35 = .ok (.iadd, 1) := by decide +kernel
theorem dX9_isSo_36 : decode cX9_isSo 36 = .ok (.iaload, 1) := by decide +kernel
theorem dX9_isSo_37 : decode cX9_isSo 37 = .ok (.invokevirtual 180, 3) := by decide +kernel
theorem dX9_isSo_40 : decode cX9_isSo 40 = .ok (.aload_n 0, 1) := by decide +kernel
theorem dX9_isSo_41 : decode cX9_isSo 41 = .ok (.getfield 28, 3) := by decide +kernel
theorem dX9_isSo_44 : decode cX9_isSo 44 = .ok (.bipush 40, 2) := by decide +kernel
theorem dX9_isSo_46 : decode cX9_isSo 46 = .ok (.iload_n 3, 1) := by decide +kernel
theorem dX9_isSo_47 : decode cX9_isSo 47 = .ok (.imul, 1) := by decide +kernel
theorem dX9_isSo_48 : decode cX9_isSo 48 = .ok (.iload 5, 2) := by decide +kernel
theorem dX9_isSo_50 : decode cX9_isSo 50 = .ok (.iadd, 1) := by decide +kernel
theorem dX9_isSo_51 : decode cX9_isSo 51 = .ok (.iconst 1, 1) := by decide +kernel
theorem dX9_isSo_52 : decode cX9_isSo 52 = .ok (.iadd, 1) := by decide +kernel
theorem dX9_isSo_53 : decode cX9_isSo 53 = .ok (.iaload, 1) := by decide +kernel
theorem dX9_isSo_54 : decode cX9_isSo 54 = .ok (.if_icmp .ne 7, 3) := by decide +kernel
theorem dX9_isSo_57 : decode cX9_isSo 57 = .ok (.iconst 1, 1) := by decide +kernel
theorem dX9_isSo_58 : decode cX9_isSo 58 = .ok (.goto 4, 3) := by decide +kernel
theorem dX9_isSo_61 : decode cX9_isSo 61 = .ok (.iconst 0, 1) := by decide +kernel
theorem dX9_isSo_62 : decode cX9_isSo 62 = .ok (.istore 4, 2) := by decide +kernel
theorem dX9_isSo_64 : decode cX9_isSo 64 = .ok (.iinc 5 2, 3) := by decide +kernel
theorem dX9_isSo_67 : decode cX9_isSo 67 = .ok (.goto (-61), 3) := by decide +kernel
theorem dX9_isSo_70 : decode cX9_isSo 70 = .ok (.iload 4, 2) := by decide +kernel
theorem dX9_isSo_72 : decode cX9_isSo 72 = .ok (.ireturn, 1) := by decide +kernel
def fX9_isSo_62 (k6 : Nat → Int32 → Int32 → Int32 → Int32 → Int32 → gz_H → Option (Int32 × gz_H)) (a0 : Nat) (x1 : Int32) (x2 : Int32) (x3 : Int32) (x5 : Int32) (w0 : Int32) (h : gz_H) : Option (Int32 × gz_H) :=
    k6 a0 x1 x2 x3 w0 (x5 + 2) h
set_option maxRecDepth 100000 in
set_option maxHeartbeats 1000000 in
theorem sX9_isSo_62 {G : gz_G} {d l0 s0 : Nat} {Q : Int32 → gz_H → Prop} {k6 : Nat → Int32 → Int32 → Int32 → Int32 → Int32 → gz_H → Option (Int32 × gz_H)} (hk6 : ∀ (a0 : Nat) (x1 : Int32) (x2 : Int32) (x3 : Int32) (x4 : Int32) (x5 : Int32) (h : gz_H), gz_g (k6 a0 x1 x2 x3 x4 x5 h) Q → gz_Ok G mX9_isSo (d + 2, l0, s0, 0, 0) 6 [.ref a0, .int x1, .int x2, .int x3, .int x4, .int x5] [] h (gz_qi Q)) (a0 : Nat) (x1 : Int32) (x2 : Int32) (x3 : Int32) (x5 : Int32) (w0 : Int32) (h : gz_H) (hf : gz_g (fX9_isSo_62 k6 a0 x1 x2 x3 x5 w0 h) Q) : gz_Ok G mX9_isSo (d + 2, l0, s0, 0, 0) 62 [.ref a0, .int x1, .int x2, .int x3, .retAddr 0, .int x5] [.int w0] h (gz_qi Q) := by
  unfold fX9_isSo_62 at hf
  refine gz_istore (lv := [.ref a0, .int x1, .int x2, .int x3, .int w0, .int x5]) (pc := 62) dX9_isSo_62 (by decide) rfl ?_
  refine gz_iinc (v := x5 + 2) (lv := [.ref a0, .int x1, .int x2, .int x3, .int w0, .int (x5 + 2)]) (pc := 64) dX9_isSo_64 rfl rfl (by decide) rfl ?_
  refine gz_goto (tgt := 6) (pc := 67) dX9_isSo_67 rfl ?_
  exact hk6 a0 x1 x2 x3 w0 (x5 + 2) h hf
def fX9_isSo_6  : Nat → Nat → Int32 → Int32 → Int32 → Int32 → Int32 → gz_H → Option (Int32 × gz_H)
  | 0, _, _, _, _, _, _, _ => none
  | n + 1, a0, x1, x2, x3, x4, x5, h =>
    gz_ck (gz_sh h a0 9 29) <|
    gz_br (h.2.2.2 a0 7) fun r_2 =>
    gz_ck (gz_inb h r_2 10 x3) <|
    if (h.2.1 r_2 x3.toNatClampNeg) ≤ x5 then (
     gz_ck (gz_bo x4) <|
     some (x4, h)
    ) else (
     if x4 = 0 then (
      gz_ck (gz_bo x4) <|
      some (x4, h)
     ) else (
      gz_br (h.2.2.2 a0 8) fun r_8 =>
      gz_ck (gz_inb h r_8 10 (((40 : Int32) * x3) + x5)) <|
      gz_b2 (fX9_tellsTried a0 x1 x2 (h.2.1 r_8 (((40 : Int32) * x3) + x5).toNatClampNeg) h) fun y_11 h_10 =>
      gz_ck (gz_sh h_10 a0 9 29) <|
      gz_br (h_10.2.2.2 a0 8) fun r_13 =>
      gz_ck (gz_inb h_10 r_13 10 ((((40 : Int32) * x3) + x5) + (1 : Int32))) <|
      if y_11 = (h_10.2.1 r_13 ((((40 : Int32) * x3) + x5) + (1 : Int32)).toNatClampNeg) then (
       fX9_isSo_62 (fun z0 z1 z2 z3 z4 z5 zh => fX9_isSo_6 n z0 z1 z2 z3 z4 z5 zh) a0 x1 x2 x3 x5 (1 : Int32) h_10
      ) else (
       fX9_isSo_62 (fun z0 z1 z2 z3 z4 z5 zh => fX9_isSo_6 n z0 z1 z2 z3 z4 z5 zh) a0 x1 x2 x3 x5 (0 : Int32) h_10
      )
     )
    )
set_option maxRecDepth 100000 in
set_option maxHeartbeats 1000000 in
theorem sX9_isSo_6 {G : gz_G} {d l0 s0 : Nat} {Q : Int32 → gz_H → Prop} : ∀ (n : Nat) (a0 : Nat) (x1 : Int32) (x2 : Int32) (x3 : Int32) (x4 : Int32) (x5 : Int32) (h : gz_H), gz_g (fX9_isSo_6  n a0 x1 x2 x3 x4 x5 h) Q → gz_Ok G mX9_isSo (d + 2, l0, s0, 0, 0) 6 [.ref a0, .int x1, .int x2, .int x3, .int x4, .int x5] [] h (gz_qi Q) := by
  intro n
  induction n with
  | zero => intro a0 x1 x2 x3 x4 x5 h hf; exact False.elim hf
  | succ n ih =>
    intro a0 x1 x2 x3 x4 x5 h hf
    rw [fX9_isSo_6] at hf
    refine gz_iload (pc := 6) dX9_isSo_6 rfl ?_
    refine gz_aload_n (pc := 8) dX9_isSo_8 rfl rfl ?_
    refine gz_gk hf (fun c_1 hf => ?_)
    refine gz_gb hf (fun r_2 er_2 hf => ?_)
    refine gz_getR (pc := 9) dX9_isSo_9 fl_RX9_25 rfl (gz_shs c_1) er_2 ?_
    refine gz_iload_n (pc := 12) dX9_isSo_12 rfl rfl ?_
    refine gz_gk hf (fun c_3 hf => ?_)
    refine gz_iald (pc := 13) dX9_isSo_13 c_3 ?_
    refine gz_icmp_ge (tgt := 70) (pc := 14) dX9_isSo_14 rfl (fun c_4 => ?_) (fun c_4 => ?_)
    · have hf := gz_gT hf c_4
      refine gz_iload (pc := 70) dX9_isSo_70 rfl ?_
      refine gz_gk hf (fun c_5 hf => ?_)
      exact gz_irt (pc := 72) dX9_isSo_72 rfl (by rcases (gz_bos c_5) with h8 | h8 <;> rw [h8] <;> rfl) hf
    · have hf := gz_gF hf c_4
      refine gz_iload (pc := 17) dX9_isSo_17 rfl ?_
      refine gz_if_eq (tgt := 70) (pc := 19) dX9_isSo_19 rfl (fun c_6 => ?_) (fun c_6 => ?_)
      · have hf := gz_gT hf c_6
        refine gz_iload (pc := 70) dX9_isSo_70 rfl ?_
        refine gz_gk hf (fun c_7 hf => ?_)
        exact gz_irt (pc := 72) dX9_isSo_72 rfl (by rcases (gz_bos c_7) with h8 | h8 <;> rw [h8] <;> rfl) hf
      · have hf := gz_gF hf c_6
        refine gz_aload_n (pc := 22) dX9_isSo_22 rfl rfl ?_
        refine gz_iload_n (pc := 23) dX9_isSo_23 rfl rfl ?_
        refine gz_iload_n (pc := 24) dX9_isSo_24 rfl rfl ?_
        refine gz_aload_n (pc := 25) dX9_isSo_25 rfl rfl ?_
        refine gz_gb hf (fun r_8 er_8 hf => ?_)
        refine gz_getR (pc := 26) dX9_isSo_26 fl_RX9_28 rfl (gz_shs c_1) er_8 ?_
        refine gz_bipush (v := (40 : Int32)) (pc := 29) dX9_isSo_29 rfl ?_
        refine gz_iload_n (pc := 31) dX9_isSo_31 rfl rfl ?_
        refine gz_imul (pc := 32) dX9_isSo_32 ?_
        refine gz_iload (pc := 33) dX9_isSo_33 rfl ?_
        refine gz_iadd (pc := 35) dX9_isSo_35 ?_
        refine gz_gk hf (fun c_9 hf => ?_)
        refine gz_iald (pc := 36) dX9_isSo_36 c_9 ?_
        refine gz_cVI (av := [.int x1, .int x2, .int (h.2.1 r_8 (((40 : Int32) * x3) + x5).toNatClampNeg)]) (st := []) (pc := 37) dX9_isSo_37 kl_RX9_180 rfl (gz_shs c_1) rfl rfl (Nat.le_of_ble_eq_true rfl) (by show d + 0 + 1 + 1 ≤ d + 2; omega) (sX9_tellsTried (d := d + 0) (gz_gc hf)) (fun y_11 h_10 hf => ?_)
        refine gz_aload_n (pc := 40) dX9_isSo_40 rfl rfl ?_
        refine gz_gk hf (fun c_12 hf => ?_)
        refine gz_gb hf (fun r_13 er_13 hf => ?_)
        refine gz_getR (pc := 41) dX9_isSo_41 fl_RX9_28 rfl (gz_shs c_12) er_13 ?_
        refine gz_bipush (v := (40 : Int32)) (pc := 44) dX9_isSo_44 rfl ?_
        refine gz_iload_n (pc := 46) dX9_isSo_46 rfl rfl ?_
        refine gz_imul (pc := 47) dX9_isSo_47 ?_
        refine gz_iload (pc := 48) dX9_isSo_48 rfl ?_
        refine gz_iadd (pc := 50) dX9_isSo_50 ?_
        refine gz_iconst (v := (1 : Int32)) (pc := 51) dX9_isSo_51 rfl ?_
        refine gz_iadd (pc := 52) dX9_isSo_52 ?_
        refine gz_gk hf (fun c_14 hf => ?_)
        refine gz_iald (pc := 53) dX9_isSo_53 c_14 ?_
        refine gz_icmp_ne (tgt := 61) (pc := 54) dX9_isSo_54 rfl (fun c_15 => ?_) (fun c_15 => ?_)
        · have hf := gz_gF hf c_15
          refine gz_iconst (v := (0 : Int32)) (pc := 61) dX9_isSo_61 rfl ?_
          refine gz_fg (lv := [.ref a0, .int x1, .int x2, .int x3, .retAddr 0, .int x5]) ⟨Or.inr rfl, ⟨Or.inr rfl, ⟨Or.inr rfl, ⟨Or.inr rfl, ⟨Or.inl rfl, ⟨Or.inr rfl, trivial⟩⟩⟩⟩⟩⟩ ?_
          exact sX9_isSo_62 ih a0 x1 x2 x3 x5 (0 : Int32) h_10 hf
        · have hf := gz_gT hf c_15
          refine gz_iconst (v := (1 : Int32)) (pc := 57) dX9_isSo_57 rfl ?_
          refine gz_goto (tgt := 62) (pc := 58) dX9_isSo_58 rfl ?_
          refine gz_fg (lv := [.ref a0, .int x1, .int x2, .int x3, .retAddr 0, .int x5]) ⟨Or.inr rfl, ⟨Or.inr rfl, ⟨Or.inr rfl, ⟨Or.inr rfl, ⟨Or.inl rfl, ⟨Or.inr rfl, trivial⟩⟩⟩⟩⟩⟩ ?_
          exact sX9_isSo_62 ih a0 x1 x2 x3 x5 (1 : Int32) h_10 hf
def fX9_isSo_0  (a0 : Nat) (x1 : Int32) (x2 : Int32) (x3 : Int32) (h : gz_H) : Option (Int32 × gz_H) :=
    fX9_isSo_6 gz_fu a0 x1 x2 x3 (1 : Int32) (0 : Int32) h
set_option maxRecDepth 100000 in
set_option maxHeartbeats 1000000 in
theorem sX9_isSo_0 {G : gz_G} {d l0 s0 : Nat} {Q : Int32 → gz_H → Prop} (a0 : Nat) (x1 : Int32) (x2 : Int32) (x3 : Int32) (h : gz_H) (hf : gz_g (fX9_isSo_0  a0 x1 x2 x3 h) Q) : gz_Ok G mX9_isSo (d + 2, l0, s0, 0, 0) 0 [.ref a0, .int x1, .int x2, .int x3, .retAddr 0, .retAddr 0] [] h (gz_qi Q) := by
  unfold fX9_isSo_0 at hf
  refine gz_iconst (v := (1 : Int32)) (pc := 0) dX9_isSo_0 rfl ?_
  refine gz_istore (lv := [.ref a0, .int x1, .int x2, .int x3, .int (1 : Int32), .retAddr 0]) (pc := 1) dX9_isSo_1 (by decide) rfl ?_
  refine gz_iconst (v := (0 : Int32)) (pc := 3) dX9_isSo_3 rfl ?_
  refine gz_istore (lv := [.ref a0, .int x1, .int x2, .int x3, .int (1 : Int32), .int (0 : Int32)]) (pc := 4) dX9_isSo_4 (by decide) rfl ?_
  exact sX9_isSo_6 gz_fu a0 x1 x2 x3 (1 : Int32) (0 : Int32) h hf
def fX9_isSo (a0 : Nat) (x1 : Int32) (x2 : Int32) (x3 : Int32) (h : gz_H) : Option (Int32 × gz_H) := fX9_isSo_0 a0 x1 x2 x3 h
theorem sX9_isSo {G : gz_G} {d : Nat} {a0 : Nat} {x1 : Int32} {x2 : Int32} {x3 : Int32} {h : gz_H} {Q : Int32 → gz_H → Prop} (hf : gz_g (fX9_isSo a0 x1 x2 x3 h) Q) : gz_Cl G mX9_isSo (d + 2) 0 0 [.ref a0, .int x1, .int x2, .int x3] h (gz_qi Q) := gz_cl_of (lo := [.ref a0, .int x1, .int x2, .int x3, .retAddr 0, .retAddr 0]) (by decide) rfl rfl (Nat.le_of_ble_eq_true rfl) (sX9_isSo_0 a0 x1 x2 x3 h hf)
theorem dX9_areUnlike_0 : decode cX9_areUnlike 0 = .ok (.iconst 0, 1) := by decide +kernel
theorem dX9_areUnlike_1 : decode cX9_areUnlike 1 = .ok (.istore_n 1, 1) := by decide +kernel
theorem dX9_areUnlike_2 : decode cX9_areUnlike 2 = .ok (.iconst 0, 1) := by decide +kernel
theorem dX9_areUnlike_3 : decode cX9_areUnlike 3 = .ok (.istore_n 2, 1) := by decide +kernel
theorem dX9_areUnlike_4 : decode cX9_areUnlike 4 = .ok (.iload_n 2, 1) := by decide +kernel
theorem dX9_areUnlike_5 : decode cX9_areUnlike 5 = .ok (.aload_n 0, 1) := by decide +kernel
theorem dX9_areUnlike_6 : decode cX9_areUnlike 6 = .ok (.getfield 164, 3) := by decide +kernel
theorem dX9_areUnlike_9 : decode cX9_areUnlike 9 = .ok (.if_icmp .ge 20, 3) := by decide +kernel
theorem dX9_areUnlike_12 : decode cX9_areUnlike 12 = .ok (.iload_n 1, 1) := by decide +kernel
theorem dX9_areUnlike_13 : decode cX9_areUnlike 13 = .ok (.iconst 1, 1) := by decide +kernel
theorem dX9_areUnlike_14 : decode cX9_areUnlike 14 = .ok (.aload_n 0, 1) := by decide +kernel
theorem dX9_areUnlike_15 : decode cX9_areUnlike 15 = .ok (.getfield 56, 3) := by decide +kernel
theorem dX9_areUnlike_18 : decode cX9_areUnlike 18 = .ok (.iload_n 2, 1) := by decide +kernel
theorem dX9_areUnlike_19 : decode cX9_areUnlike 19 = .ok (.iaload, 1) := by decide +kernel
theorem dX9_areUnlike_20 : decode cX9_areUnlike 20 = .ok (.ishl, 1) := by decide +kernel
theorem dX9_areUnlike_21 : decode cX9_areUnlike 21 = .ok (.ior, 1) := by decide +kernel
theorem dX9_areUnlike_22 : decode cX9_areUnlike 22 = .ok (.istore_n 1, 1) := by decide +kernel
theorem dX9_areUnlike_23 : decode cX9_areUnlike 23 = .ok (.iinc 2 1, 3) := by decide +kernel
theorem dX9_areUnlike_26 : decode cX9_areUnlike 26 = .ok (.goto (-22), 3) := by decide +kernel
theorem dX9_areUnlike_29 : decode cX9_areUnlike 29 = .ok (.iload_n 1, 1) := by decide +kernel
theorem dX9_areUnlike_30 : decode cX9_areUnlike 30 = .ok (.invokestatic 193, 3) := by decide +kernel
theorem dX9_areUnlike_33 : decode cX9_areUnlike 33 = .ok (.aload_n 0, 1) := by decide +kernel
theorem dX9_areUnlike_34 : decode cX9_areUnlike 34 = .ok (.getfield 164, 3) := by decide +kernel
theorem dX9_areUnlike_37 : decode cX9_areUnlike 37 = .ok (.if_icmp .ne 7, 3) := by decide +kernel
theorem dX9_areUnlike_40 : decode cX9_areUnlike 40 = .ok (.iconst 1, 1) := by decide +kernel
theorem dX9_areUnlike_41 : decode cX9_areUnlike 41 = .ok (.goto 4, 3) := by decide +kernel
theorem dX9_areUnlike_44 : decode cX9_areUnlike 44 = .ok (.iconst 0, 1) := by decide +kernel
theorem dX9_areUnlike_45 : decode cX9_areUnlike 45 = .ok (.ireturn, 1) := by decide +kernel
def fX9_areUnlike_4  : Nat → Nat → Int32 → Int32 → gz_H → Option (Int32 × gz_H)
  | 0, _, _, _, _ => none
  | n + 1, a0, x1, x2, h =>
    gz_ck (gz_sh h a0 9 29) <|
    if (h.2.1 a0 25) ≤ x2 then (
     gz_b2 (fX9_bits x1 h) fun y_4 h_3 =>
     gz_ck (gz_sh h_3 a0 9 29) <|
     if y_4 = (h_3.2.1 a0 25) then (
      some ((1 : Int32), h_3)
     ) else (
      some ((0 : Int32), h_3)
     )
    ) else (
     gz_br (h.2.2.2 a0 26) fun r_7 =>
     gz_ck (gz_inb h r_7 10 x2) <|
     gz_lt (x1 ||| ((1 : Int32) <<< ((h.2.1 r_7 x2.toNatClampNeg) &&& 31))) fun (y_9 : Int32) =>
     fX9_areUnlike_4 n a0 y_9 (x2 + 1) h
    )
set_option maxRecDepth 100000 in
set_option maxHeartbeats 1000000 in
theorem sX9_areUnlike_4 {G : gz_G} {d l0 s0 : Nat} {Q : Int32 → gz_H → Prop} : ∀ (n : Nat) (a0 : Nat) (x1 : Int32) (x2 : Int32) (h : gz_H), gz_g (fX9_areUnlike_4  n a0 x1 x2 h) Q → gz_Ok G mX9_areUnlike (d + 1, l0, s0, 0, 0) 4 [.ref a0, .int x1, .int x2] [] h (gz_qi Q) := by
  intro n
  induction n with
  | zero => intro a0 x1 x2 h hf; exact False.elim hf
  | succ n ih =>
    intro a0 x1 x2 h hf
    rw [fX9_areUnlike_4] at hf
    refine gz_iload_n (pc := 4) dX9_areUnlike_4 rfl rfl ?_
    refine gz_aload_n (pc := 5) dX9_areUnlike_5 rfl rfl ?_
    refine gz_gk hf (fun c_1 hf => ?_)
    refine gz_getI (pc := 6) dX9_areUnlike_6 fl_RX9_164 rfl (gz_shs c_1) ?_
    refine gz_icmp_ge (tgt := 29) (pc := 9) dX9_areUnlike_9 rfl (fun c_2 => ?_) (fun c_2 => ?_)
    · have hf := gz_gT hf c_2
      refine gz_iload_n (pc := 29) dX9_areUnlike_29 rfl rfl ?_
      refine gz_cSI (av := [.int x1]) (st := []) (pc := 30) dX9_areUnlike_30 kl_RX9_193 rfl rfl (Nat.le_of_ble_eq_true rfl) (by show d + 0 + 0 + 1 ≤ d + 1; omega) (sX9_bits (d := d + 0) (gz_gc hf)) (fun y_4 h_3 hf => ?_)
      refine gz_aload_n (pc := 33) dX9_areUnlike_33 rfl rfl ?_
      refine gz_gk hf (fun c_5 hf => ?_)
      refine gz_getI (pc := 34) dX9_areUnlike_34 fl_RX9_164 rfl (gz_shs c_5) ?_
      refine gz_icmp_ne (tgt := 44) (pc := 37) dX9_areUnlike_37 rfl (fun c_6 => ?_) (fun c_6 => ?_)
      · have hf := gz_gF hf c_6
        refine gz_iconst (v := (0 : Int32)) (pc := 44) dX9_areUnlike_44 rfl ?_
        exact gz_irt (pc := 45) dX9_areUnlike_45 rfl rfl hf
      · have hf := gz_gT hf c_6
        refine gz_iconst (v := (1 : Int32)) (pc := 40) dX9_areUnlike_40 rfl ?_
        refine gz_goto (tgt := 45) (pc := 41) dX9_areUnlike_41 rfl ?_
        exact gz_irt (pc := 45) dX9_areUnlike_45 rfl rfl hf
    · have hf := gz_gF hf c_2
      refine gz_iload_n (pc := 12) dX9_areUnlike_12 rfl rfl ?_
      refine gz_iconst (v := (1 : Int32)) (pc := 13) dX9_areUnlike_13 rfl ?_
      refine gz_aload_n (pc := 14) dX9_areUnlike_14 rfl rfl ?_
      refine gz_gb hf (fun r_7 er_7 hf => ?_)
      refine gz_getR (pc := 15) dX9_areUnlike_15 fl_RX9_56 rfl (gz_shs c_1) er_7 ?_
      refine gz_iload_n (pc := 18) dX9_areUnlike_18 rfl rfl ?_
      refine gz_gk hf (fun c_8 hf => ?_)
      refine gz_iald (pc := 19) dX9_areUnlike_19 c_8 ?_
      refine gz_ishl (pc := 20) dX9_areUnlike_20 ?_
      refine gz_ior (pc := 21) dX9_areUnlike_21 ?_
      refine gz_nmI (fun y_9 ey_9 => ?_)
      have hf := gz_gl ey_9 hf
      refine gz_istore_n (lv := [.ref a0, .int y_9, .int x2]) (pc := 22) dX9_areUnlike_22 rfl (by decide) rfl ?_
      refine gz_iinc (v := x2 + 1) (lv := [.ref a0, .int y_9, .int (x2 + 1)]) (pc := 23) dX9_areUnlike_23 rfl rfl (by decide) rfl ?_
      refine gz_goto (tgt := 4) (pc := 26) dX9_areUnlike_26 rfl ?_
      exact ih a0 y_9 (x2 + 1) h hf
def fX9_areUnlike_0  (a0 : Nat) (h : gz_H) : Option (Int32 × gz_H) :=
    fX9_areUnlike_4 gz_fu a0 (0 : Int32) (0 : Int32) h
set_option maxRecDepth 100000 in
set_option maxHeartbeats 1000000 in
theorem sX9_areUnlike_0 {G : gz_G} {d l0 s0 : Nat} {Q : Int32 → gz_H → Prop} (a0 : Nat) (h : gz_H) (hf : gz_g (fX9_areUnlike_0  a0 h) Q) : gz_Ok G mX9_areUnlike (d + 1, l0, s0, 0, 0) 0 [.ref a0, .retAddr 0, .retAddr 0] [] h (gz_qi Q) := by
  unfold fX9_areUnlike_0 at hf
  refine gz_iconst (v := (0 : Int32)) (pc := 0) dX9_areUnlike_0 rfl ?_
  refine gz_istore_n (lv := [.ref a0, .int (0 : Int32), .retAddr 0]) (pc := 1) dX9_areUnlike_1 rfl (by decide) rfl ?_
  refine gz_iconst (v := (0 : Int32)) (pc := 2) dX9_areUnlike_2 rfl ?_
  refine gz_istore_n (lv := [.ref a0, .int (0 : Int32), .int (0 : Int32)]) (pc := 3) dX9_areUnlike_3 rfl (by decide) rfl ?_
  exact sX9_areUnlike_4 gz_fu a0 (0 : Int32) (0 : Int32) h hf
def fX9_areUnlike (a0 : Nat) (h : gz_H) : Option (Int32 × gz_H) := fX9_areUnlike_0 a0 h
theorem sX9_areUnlike {G : gz_G} {d : Nat} {a0 : Nat} {h : gz_H} {Q : Int32 → gz_H → Prop} (hf : gz_g (fX9_areUnlike a0 h) Q) : gz_Cl G mX9_areUnlike (d + 1) 0 0 [.ref a0] h (gz_qi Q) := gz_cl_of (lo := [.ref a0, .retAddr 0, .retAddr 0]) (by decide) rfl rfl (Nat.le_of_ble_eq_true rfl) (sX9_areUnlike_0 a0 h hf)
theorem dX9_nextTried_0 : decode cX9_nextTried 0 = .ok (.aload_n 0, 1) := by decide +kernel
theorem dX9_nextTried_1 : decode cX9_nextTried 1 = .ok (.getfield 164, 3) := by decide +kernel
theorem dX9_nextTried_4 : decode cX9_nextTried 4 = .ok (.iconst 1, 1) := by decide +kernel
theorem dX9_nextTried_5 : decode cX9_nextTried 5 = .ok (.isub, 1) := by decide +kernel
theorem dX9_nextTried_6 : decode cX9_nextTried 6 = .ok (.istore_n 1, 1) := by decide +kernel
theorem dX9_nextTried_7 : decode cX9_nextTried 7 = .ok (.iload_n 1, 1) := by decide +kernel
theorem dX9_nextTried_8 : decode cX9_nextTried 8 = .ok (.ifCond .lt 31, 3) := by decide +kernel
theorem dX9_nextTried_11 : decode cX9_nextTried 11 = .ok (.aload_n 0, 1) := by decide +kernel
theorem dX9_nextTried_12 : decode cX9_nextTried 12 = .ok (.getfield 56, 3) := by decide +kernel
theorem dX9_nextTried_15 : decode cX9_nextTried 15 = .ok (.iload_n 1, 1) := by decide +kernel
theorem dX9_nextTried_16 : decode cX9_nextTried 16 = .ok (.iaload, 1) := by decide +kernel
theorem dX9_nextTried_17 : decode cX9_nextTried 17 = .ok (.aload_n 0, 1) := by decide +kernel
theorem dX9_nextTried_18 : decode cX9_nextTried 18 = .ok (.getfield 155, 3) := by decide +kernel
theorem dX9_nextTried_21 : decode cX9_nextTried 21 = .ok (.iconst 1, 1) := by decide +kernel
theorem dX9_nextTried_22 : decode cX9_nextTried 22 = .ok (.isub, 1) := by decide +kernel
theorem dX9_nextTried_23 : decode cX9_nextTried 23 = .ok (.if_icmp .ne 16, 3) := by decide +kernel
theorem dX9_nextTried_26 : decode cX9_nextTried 26 = .ok (.aload_n 0, 1) := by decide +kernel
theorem dX9_nextTried_27 : decode cX9_nextTried 27 = .ok (.getfield 56, 3) := by decide +kernel
theorem dX9_nextTried_30 : decode cX9_nextTried 30 = .ok (.iload_n 1, 1) := by decide +kernel
theorem dX9_nextTried_31 : decode cX9_nextTried 31 = .ok (.iconst 0, 1) := by decide +kernel
theorem dX9_nextTried_32 : decode cX9_nextTried 32 = .ok (.iastore, 1) := by decide +kernel
theorem dX9_nextTried_33 : decode cX9_nextTried 33 = .ok (.iinc 1 (-1), 3) := by decide +kernel
theorem dX9_nextTried_36 : decode cX9_nextTried 36 = .ok (.goto (-29), 3) := by decide +kernel
theorem dX9_nextTried_39 : decode cX9_nextTried 39 = .ok (.iload_n 1, 1) := by decide +kernel
theorem dX9_nextTried_40 : decode cX9_nextTried 40 = .ok (.ifCond .ge 5, 3) := by decide +kernel
theorem dX9_nextTried_43 : decode cX9_nextTried 43 = .ok (.iconst 0, 1) := by decide +kernel
theorem dX9_nextTried_44 : decode cX9_nextTried 44 = .ok (.ireturn, 1) := by decide +kernel
theorem dX9_nextTried_45 : decode cX9_nextTried 45 = .ok (.aload_n 0, 1) := by decide +kernel
theorem dX9_nextTried_46 : decode cX9_nextTried 46 = .ok (.getfield 56, 3) := by decide +kernel
theorem dX9_nextTried_49 : decode cX9_nextTried 49 = .ok (.iload_n 1, 1) := by decide +kernel
theorem dX9_nextTried_50 : decode cX9_nextTried 50 = .ok (.dup2, 1) := by decide +kernel
theorem dX9_nextTried_51 : decode cX9_nextTried 51 = .ok (.iaload, 1) := by decide +kernel
theorem dX9_nextTried_52 : decode cX9_nextTried 52 = .ok (.iconst 1, 1) := by decide +kernel
theorem dX9_nextTried_53 : decode cX9_nextTried 53 = .ok (.iadd, 1) := by decide +kernel
theorem dX9_nextTried_54 : decode cX9_nextTried 54 = .ok (.iastore, 1) := by decide +kernel
theorem dX9_nextTried_55 : decode cX9_nextTried 55 = .ok (.iconst 1, 1) := by decide +kernel
theorem dX9_nextTried_56 : decode cX9_nextTried 56 = .ok (.ireturn, 1) := by decide +kernel
def fX9_nextTried_39  (a0 : Nat) (x1 : Int32) (h : gz_H) : Option (Int32 × gz_H) :=
    if 0 ≤ x1 then (
     gz_ck (gz_sh h a0 9 29) <|
     gz_br (h.2.2.2 a0 26) fun r_3 =>
     gz_ck (gz_inb h r_3 10 x1) <|
     gz_lt (uI h r_3 x1.toNatClampNeg ((h.2.1 r_3 x1.toNatClampNeg) + (1 : Int32))) fun h_5 =>
     some ((1 : Int32), h_5)
    ) else (
     some ((0 : Int32), h)
    )
set_option maxRecDepth 100000 in
set_option maxHeartbeats 1000000 in
theorem sX9_nextTried_39 {G : gz_G} {d l0 s0 : Nat} {Q : Int32 → gz_H → Prop} (a0 : Nat) (x1 : Int32) (h : gz_H) (hf : gz_g (fX9_nextTried_39  a0 x1 h) Q) : gz_Ok G mX9_nextTried (d + 0, l0, s0, 0, 0) 39 [.ref a0, .int x1] [] h (gz_qi Q) := by
  unfold fX9_nextTried_39 at hf
  refine gz_iload_n (pc := 39) dX9_nextTried_39 rfl rfl ?_
  refine gz_if_ge (tgt := 45) (pc := 40) dX9_nextTried_40 rfl (fun c_1 => ?_) (fun c_1 => ?_)
  · have hf := gz_gT hf c_1
    refine gz_aload_n (pc := 45) dX9_nextTried_45 rfl rfl ?_
    refine gz_gk hf (fun c_2 hf => ?_)
    refine gz_gb hf (fun r_3 er_3 hf => ?_)
    refine gz_getR (pc := 46) dX9_nextTried_46 fl_RX9_56 rfl (gz_shs c_2) er_3 ?_
    refine gz_iload_n (pc := 49) dX9_nextTried_49 rfl rfl ?_
    refine gz_dup2 (pc := 50) dX9_nextTried_50 rfl rfl ?_
    refine gz_gk hf (fun c_4 hf => ?_)
    refine gz_iald (pc := 51) dX9_nextTried_51 c_4 ?_
    refine gz_iconst (v := (1 : Int32)) (pc := 52) dX9_nextTried_52 rfl ?_
    refine gz_iadd (pc := 53) dX9_nextTried_53 ?_
    refine gz_iast (pc := 54) dX9_nextTried_54 c_4 ?_
    refine gz_nmH (fun h_5 eh_5 => ?_)
    have hf := gz_gl eh_5 hf
    refine gz_iconst (v := (1 : Int32)) (pc := 55) dX9_nextTried_55 rfl ?_
    exact gz_irt (pc := 56) dX9_nextTried_56 rfl rfl hf
  · have hf := gz_gF hf c_1
    refine gz_iconst (v := (0 : Int32)) (pc := 43) dX9_nextTried_43 rfl ?_
    exact gz_irt (pc := 44) dX9_nextTried_44 rfl rfl hf
def fX9_nextTried_7  : Nat → Nat → Int32 → gz_H → Option (Int32 × gz_H)
  | 0, _, _, _ => none
  | n + 1, a0, x1, h =>
    if x1 < 0 then (
     fX9_nextTried_39 a0 x1 h
    ) else (
     gz_ck (gz_sh h a0 9 29) <|
     gz_br (h.2.2.2 a0 26) fun r_3 =>
     gz_ck (gz_inb h r_3 10 x1) <|
     if (h.2.1 r_3 x1.toNatClampNeg) = ((h.2.1 a0 1) - (1 : Int32)) then (
      gz_lt (uI h r_3 x1.toNatClampNeg (0 : Int32)) fun h_6 =>
      fX9_nextTried_7 n a0 (x1 + (-1)) h_6
     ) else (
      fX9_nextTried_39 a0 x1 h
     )
    )
set_option maxRecDepth 100000 in
set_option maxHeartbeats 1000000 in
theorem sX9_nextTried_7 {G : gz_G} {d l0 s0 : Nat} {Q : Int32 → gz_H → Prop} : ∀ (n : Nat) (a0 : Nat) (x1 : Int32) (h : gz_H), gz_g (fX9_nextTried_7  n a0 x1 h) Q → gz_Ok G mX9_nextTried (d + 0, l0, s0, 0, 0) 7 [.ref a0, .int x1] [] h (gz_qi Q) := by
  intro n
  induction n with
  | zero => intro a0 x1 h hf; exact False.elim hf
  | succ n ih =>
    intro a0 x1 h hf
    rw [fX9_nextTried_7] at hf
    refine gz_iload_n (pc := 7) dX9_nextTried_7 rfl rfl ?_
    refine gz_if_lt (tgt := 39) (pc := 8) dX9_nextTried_8 rfl (fun c_1 => ?_) (fun c_1 => ?_)
    · have hf := gz_gT hf c_1
      exact sX9_nextTried_39 a0 x1 h hf
    · have hf := gz_gF hf c_1
      refine gz_aload_n (pc := 11) dX9_nextTried_11 rfl rfl ?_
      refine gz_gk hf (fun c_2 hf => ?_)
      refine gz_gb hf (fun r_3 er_3 hf => ?_)
      refine gz_getR (pc := 12) dX9_nextTried_12 fl_RX9_56 rfl (gz_shs c_2) er_3 ?_
      refine gz_iload_n (pc := 15) dX9_nextTried_15 rfl rfl ?_
      refine gz_gk hf (fun c_4 hf => ?_)
      refine gz_iald (pc := 16) dX9_nextTried_16 c_4 ?_
      refine gz_aload_n (pc := 17) dX9_nextTried_17 rfl rfl ?_
      refine gz_getI (pc := 18) dX9_nextTried_18 fl_RX9_155 rfl (gz_shs c_2) ?_
      refine gz_iconst (v := (1 : Int32)) (pc := 21) dX9_nextTried_21 rfl ?_
      refine gz_isub (pc := 22) dX9_nextTried_22 ?_
      refine gz_icmp_ne (tgt := 39) (pc := 23) dX9_nextTried_23 rfl (fun c_5 => ?_) (fun c_5 => ?_)
      · have hf := gz_gF hf c_5
        exact sX9_nextTried_39 a0 x1 h hf
      · have hf := gz_gT hf c_5
        refine gz_aload_n (pc := 26) dX9_nextTried_26 rfl rfl ?_
        refine gz_getR (pc := 27) dX9_nextTried_27 fl_RX9_56 rfl (gz_shs c_2) er_3 ?_
        refine gz_iload_n (pc := 30) dX9_nextTried_30 rfl rfl ?_
        refine gz_iconst (v := (0 : Int32)) (pc := 31) dX9_nextTried_31 rfl ?_
        refine gz_iast (pc := 32) dX9_nextTried_32 c_4 ?_
        refine gz_nmH (fun h_6 eh_6 => ?_)
        have hf := gz_gl eh_6 hf
        refine gz_iinc (v := x1 + (-1)) (lv := [.ref a0, .int (x1 + (-1))]) (pc := 33) dX9_nextTried_33 rfl rfl (by decide) rfl ?_
        refine gz_goto (tgt := 7) (pc := 36) dX9_nextTried_36 rfl ?_
        exact ih a0 (x1 + (-1)) h_6 hf
def fX9_nextTried_0  (a0 : Nat) (h : gz_H) : Option (Int32 × gz_H) :=
    gz_ck (gz_sh h a0 9 29) <|
    fX9_nextTried_7 gz_fu a0 ((h.2.1 a0 25) - (1 : Int32)) h
set_option maxRecDepth 100000 in
set_option maxHeartbeats 1000000 in
theorem sX9_nextTried_0 {G : gz_G} {d l0 s0 : Nat} {Q : Int32 → gz_H → Prop} (a0 : Nat) (h : gz_H) (hf : gz_g (fX9_nextTried_0  a0 h) Q) : gz_Ok G mX9_nextTried (d + 0, l0, s0, 0, 0) 0 [.ref a0, .retAddr 0] [] h (gz_qi Q) := by
  unfold fX9_nextTried_0 at hf
  refine gz_aload_n (pc := 0) dX9_nextTried_0 rfl rfl ?_
  refine gz_gk hf (fun c_1 hf => ?_)
  refine gz_getI (pc := 1) dX9_nextTried_1 fl_RX9_164 rfl (gz_shs c_1) ?_
  refine gz_iconst (v := (1 : Int32)) (pc := 4) dX9_nextTried_4 rfl ?_
  refine gz_isub (pc := 5) dX9_nextTried_5 ?_
  refine gz_istore_n (lv := [.ref a0, .int ((h.2.1 a0 25) - (1 : Int32))]) (pc := 6) dX9_nextTried_6 rfl (by decide) rfl ?_
  exact sX9_nextTried_7 gz_fu a0 ((h.2.1 a0 25) - (1 : Int32)) h hf
def fX9_nextTried (a0 : Nat) (h : gz_H) : Option (Int32 × gz_H) := fX9_nextTried_0 a0 h
theorem sX9_nextTried {G : gz_G} {d : Nat} {a0 : Nat} {h : gz_H} {Q : Int32 → gz_H → Prop} (hf : gz_g (fX9_nextTried a0 h) Q) : gz_Cl G mX9_nextTried (d + 0) 0 0 [.ref a0] h (gz_qi Q) := gz_cl_of (lo := [.ref a0, .retAddr 0]) (by decide) rfl rfl (Nat.le_of_ble_eq_true rfl) (sX9_nextTried_0 a0 h hf)
theorem dX9_held_0 : decode cX9_held 0 = .ok (.aload_n 0, 1) := by decide +kernel
theorem dX9_held_1 : decode cX9_held 1 = .ok (.iload_n 1, 1) := by decide +kernel
theorem dX9_held_2 : decode cX9_held 2 = .ok (.invokevirtual 196, 3) := by decide +kernel
theorem dX9_held_5 : decode cX9_held 5 = .ok (.ifCond .eq 10, 3) := by decide +kernel
theorem dX9_held_8 : decode cX9_held 8 = .ok (.iload_n 2, 1) := by decide +kernel
theorem dX9_held_9 : decode cX9_held 9 = .ok (.invokestatic 80, 3) := by decide +kernel
theorem dX9_held_12 : decode cX9_held 12 = .ok (.ifCond .ne 5, 3) := by decide +kernel
theorem dX9_held_15 : decode cX9_held 15 = .ok (.iconst (-1), 1) := by decide +kernel
theorem dX9_held_16 : decode cX9_held 16 = .ok (.ireturn, 1) := by decide +kernel
theorem dX9_held_17 : decode cX9_held 17 = .ok (.aload_n 0, 1) := by decide +kernel
theorem dX9_held_18 : decode cX9_held 18 = .ok (.getfield 19, 3) := by decide +kernel
theorem dX9_held_21 : decode cX9_held 21 = .ok (.iload_n 1, 1) := by decide +kernel
theorem dX9_held_22 : decode cX9_held 22 = .ok (.iaload, 1) := by decide +kernel
theorem dX9_held_23 : decode cX9_held 23 = .ok (.iconst 4, 1) := by decide +kernel
theorem dX9_held_24 : decode cX9_held 24 = .ok (.if_icmp .le 6, 3) := by decide +kernel
theorem dX9_held_27 : decode cX9_held 27 = .ok (.bipush (-4), 2) := by decide +kernel
theorem dX9_held_29 : decode cX9_held 29 = .ok (.ireturn, 1) := by decide +kernel
theorem dX9_held_30 : decode cX9_held 30 = .ok (.aload_n 0, 1) := by decide +kernel
theorem dX9_held_31 : decode cX9_held 31 = .ok (.iload_n 2, 1) := by decide +kernel
theorem dX9_held_32 : decode cX9_held 32 = .ok (.invokevirtual 287, 3) := by decide +kernel
theorem dX9_held_35 : decode cX9_held 35 = .ok (.istore_n 3, 1) := by decide +kernel
theorem dX9_held_36 : decode cX9_held 36 = .ok (.iload_n 3, 1) := by decide +kernel
theorem dX9_held_37 : decode cX9_held 37 = .ok (.ifCond .eq 5, 3) := by decide +kernel
theorem dX9_held_40 : decode cX9_held 40 = .ok (.iload_n 3, 1) := by decide +kernel
theorem dX9_held_41 : decode cX9_held 41 = .ok (.ireturn, 1) := by decide +kernel
theorem dX9_held_42 : decode cX9_held 42 = .ok (.lconst 0, 1) := by decide +kernel
theorem dX9_held_43 : decode cX9_held 43 = .ok (.lstore 4, 2) := by decide +kernel
theorem dX9_held_45 : decode cX9_held 45 = .ok (.aload_n 0, 1) := by decide +kernel
theorem dX9_held_46 : decode cX9_held 46 = .ok (.iconst 0, 1) := by decide +kernel
theorem dX9_held_47 : decode cX9_held 47 = .ok (.putfield 164, 3) := by decide +kernel
theorem dX9_held_50 : decode cX9_held 50 = .ok (.aload_n 0, 1) := by decide +kernel
theorem dX9_held_51 : decode cX9_held 51 = .ok (.getfield 164, 3) := by decide +kernel
theorem dX9_held_54 : decode cX9_held 54 = .ok (.aload_n 0, 1) := by decide +kernel
theorem dX9_held_55 : decode cX9_held 55 = .ok (.getfield 19, 3) := by decide +kernel
theorem dX9_held_58 : decode cX9_held 58 = .ok (.iload_n 1, 1) := by decide +kernel
theorem dX9_held_59 : decode cX9_held 59 = .ok (.iaload, 1) := by decide +kernel
theorem dX9_held_60 : decode cX9_held 60 = .ok (.if_icmp .gt 96, 3) := by decide +kernel
theorem dX9_held_63 : decode cX9_held 63 = .ok (.iconst 0, 1) := by decide +kernel
theorem dX9_held_64 : decode cX9_held 64 = .ok (.istore 6, 2) := by decide +kernel
theorem dX9_held_66 : decode cX9_held 66 = .ok (.iload 6, 2) := by decide +kernel
theorem dX9_held_68 : decode cX9_held 68 = .ok (.aload_n 0, 1) := by decide +kernel
theorem dX9_held_69 : decode cX9_held 69 = .ok (.getfield 164, 3) := by decide +kernel
theorem dX9_held_72 : decode cX9_held 72 = .ok (.if_icmp .ge 17, 3) := by decide +kernel
theorem dX9_held_75 : decode cX9_held 75 = .ok (.aload_n 0, 1) := by decide +kernel
theorem dX9_held_76 : decode cX9_held 76 = .ok (.getfield 56, 3) := by decide +kernel
theorem dX9_held_79 : decode cX9_held 79 = .ok (.iload 6, 2) := by decide +kernel
theorem dX9_held_81 : decode cX9_held 81 = .ok (.iconst 0, 1) := by decide +kernel
theorem dX9_held_82 : decode cX9_held 82 = .ok (.iastore, 1) := by decide +kernel
theorem dX9_held_83 : decode cX9_held 83 = .ok (.iinc 6 1, 3) := by decide +kernel
theorem dX9_held_86 : decode cX9_held 86 = .ok (.goto (-20), 3) := by decide +kernel
theorem dX9_held_89 : decode cX9_held 89 = .ok (.iconst 1, 1) := by decide +kernel
theorem dX9_held_90 : decode cX9_held 90 = .ok (.istore 6, 2) := by decide +kernel
theorem dX9_held_92 : decode cX9_held 92 = .ok (.iload 6, 2) := by decide +kernel
theorem dX9_held_94 : decode cX9_held 94 = .ok (.ifCond .eq 49, 3) := by decide +kernel
theorem dX9_held_97 : decode cX9_held 97 = .ok (.lload 4, 2) := by decide +kernel
theorem dX9_held_99 : decode cX9_held 99 = .ok (.aload_n 0, 1) := by decide +kernel
theorem dX9_held_100 : decode cX9_held 100 = .ok (.invokevirtual 290, 3) := by decide +kernel
theorem dX9_held_103 : decode cX9_held 103 = .ok (.ifCond .eq 27, 3) := by decide +kernel
theorem dX9_held_106 : decode cX9_held 106 = .ok (.aload_n 0, 1) := by decide +kernel
theorem dX9_held_107 : decode cX9_held 107 = .ok (.aload_n 0, 1) := by decide +kernel
theorem dX9_held_108 : decode cX9_held 108 = .ok (.getfield 16, 3) := by decide +kernel
theorem dX9_held_111 : decode cX9_held 111 = .ok (.iload_n 1, 1) := by decide +kernel
theorem dX9_held_112 : decode cX9_held 112 = .ok (.iaload, 1) := by decide +kernel
theorem dX9_held_113 : decode cX9_held 113 = .ok (.aload_n 0, 1) := by decide +kernel
theorem dX9_held_114 : decode cX9_held 114 = .ok (.getfield 19, 3) := by decide +kernel
theorem dX9_held_117 : decode cX9_held 117 = .ok (.iload_n 1, 1) := by decide +kernel
theorem dX9_held_118 : decode cX9_held 118 = .ok (.iaload, 1) := by decide +kernel
theorem dX9_held_119 : decode cX9_held 119 = .ok (.iload_n 2, 1) := by decide +kernel
theorem dX9_held_120 : decode cX9_held 120 = .ok (.invokevirtual 293, 3) := by decide +kernel
theorem dX9_held_123 : decode cX9_held 123 = .ok (.ifCond .eq 7, 3) := by decide +kernel
theorem dX9_held_126 : decode cX9_held 126 = .ok (.lconst 1, 1) := by decide +kernel
theorem dX9_held_127 : decode cX9_held 127 = .ok (.goto 4, 3) := by decide +kernel
theorem dX9_held_130 : decode cX9_held 130 = .ok (.lconst 0, 1) := by decide +kernel
theorem dX9_held_131 : decode cX9_held 131 = .ok (.ladd, 1) := by decide +kernel
theorem dX9_held_132 : decode cX9_held 132 = .ok (.lstore 4, 2) := by decide +kernel
theorem dX9_held_134 : decode cX9_held 134 = .ok (.aload_n 0, 1) := by decide +kernel
theorem dX9_held_135 : decode cX9_held 135 = .ok (.invokevirtual 296, 3) := by decide +kernel
theorem dX9_held_138 : decode cX9_held 138 = .ok (.istore 6, 2) := by decide +kernel
theorem dX9_held_140 : decode cX9_held 140 = .ok (.goto (-48), 3) := by decide +kernel
theorem dX9_held_143 : decode cX9_held 143 = .ok (.aload_n 0, 1) := by decide +kernel
theorem dX9_held_144 : decode cX9_held 144 = .ok (.dup, 1) := by decide +kernel
theorem dX9_held_145 : decode cX9_held 145 = .ok (.getfield 164, 3) := by decide +kernel
theorem dX9_held_148 : decode cX9_held 148 = .ok (.iconst 1, 1) := by decide +kernel
theorem dX9_held_149 : decode cX9_held 149 = .ok (.iadd, 1) := by decide +kernel
theorem dX9_held_150 : decode cX9_held 150 = .ok (.putfield 164, 3) := by decide +kernel
theorem dX9_held_153 : decode cX9_held 153 = .ok (.goto (-103), 3) := by decide +kernel
theorem dX9_held_156 : decode cX9_held 156 = .ok (.aload_n 0, 1) := by decide +kernel
theorem dX9_held_157 : decode cX9_held 157 = .ok (.lload 4, 2) := by decide +kernel
theorem dX9_held_159 : decode cX9_held 159 = .ok (.putfield 278, 3) := by decide +kernel
theorem dX9_held_162 : decode cX9_held 162 = .ok (.aload_n 0, 1) := by decide +kernel
theorem dX9_held_163 : decode cX9_held 163 = .ok (.lconst 1, 1) := by decide +kernel
theorem dX9_held_164 : decode cX9_held 164 = .ok (.putfield 37, 3) := by decide +kernel
theorem dX9_held_167 : decode cX9_held 167 = .ok (.iconst 1, 1) := by decide +kernel
theorem dX9_held_168 : decode cX9_held 168 = .ok (.ireturn, 1) := by decide +kernel
def fX9_held_131 (k50 : Nat → Int32 → Int32 → Int64 → gz_H → Option (Int32 × gz_H)) (k92 : Nat → Int32 → Int32 → Int64 → Int32 → gz_H → Option (Int32 × gz_H)) (a0 : Nat) (x1 : Int32) (x2 : Int32) (w0 : Int64) (w1 : Int64) (h : gz_H) : Option (Int32 × gz_H) :=
    gz_ck (gz_sh h a0 9 29) <|
    gz_b2 (fX9_nextTried a0 h) fun y_2 h_1 =>
    k92 a0 x1 x2 (w0 + w1) y_2 h_1
set_option maxRecDepth 100000 in
set_option maxHeartbeats 1000000 in
theorem sX9_held_131 {G : gz_G} {d l0 s0 : Nat} {Q : Int32 → gz_H → Prop} {k50 : Nat → Int32 → Int32 → Int64 → gz_H → Option (Int32 × gz_H)} {k92 : Nat → Int32 → Int32 → Int64 → Int32 → gz_H → Option (Int32 × gz_H)} (hk50 : ∀ (a0 : Nat) (x1 : Int32) (x2 : Int32) (x4 : Int64) (h : gz_H), gz_g (k50 a0 x1 x2 x4 h) Q → gz_Ok G mX9_held (d + 3, l0, s0, 0, 0) 50 [.ref a0, .int x1, .int x2, .retAddr 0, .long x4, .retAddr 0, .retAddr 0] [] h (gz_qi Q)) (hk92 : ∀ (a0 : Nat) (x1 : Int32) (x2 : Int32) (x4 : Int64) (x6 : Int32) (h : gz_H), gz_g (k92 a0 x1 x2 x4 x6 h) Q → gz_Ok G mX9_held (d + 3, l0, s0, 0, 0) 92 [.ref a0, .int x1, .int x2, .retAddr 0, .long x4, .retAddr 0, .int x6] [] h (gz_qi Q)) (a0 : Nat) (x1 : Int32) (x2 : Int32) (w0 : Int64) (w1 : Int64) (h : gz_H) (hf : gz_g (fX9_held_131 k50 k92 a0 x1 x2 w0 w1 h) Q) : gz_Ok G mX9_held (d + 3, l0, s0, 0, 0) 131 [.ref a0, .int x1, .int x2, .retAddr 0, .retAddr 0, .retAddr 0, .retAddr 0] [.long w1, .long w0] h (gz_qi Q) := by
  unfold fX9_held_131 at hf
  refine gz_ladd (pc := 131) dX9_held_131 ?_
  refine gz_lstore (lv := [.ref a0, .int x1, .int x2, .retAddr 0, .long (w0 + w1), .retAddr 0, .retAddr 0]) (pc := 132) dX9_held_132 (by decide) rfl ?_
  refine gz_aload_n (pc := 134) dX9_held_134 rfl rfl ?_
  refine gz_gk hf (fun c_3 hf => ?_)
  refine gz_cVI (av := []) (st := []) (pc := 135) dX9_held_135 kl_RX9_296 rfl (gz_shs c_3) rfl rfl (Nat.le_of_ble_eq_true rfl) (by show d + 2 + 0 + 1 ≤ d + 3; omega) (sX9_nextTried (d := d + 2) (gz_gc hf)) (fun y_2 h_1 hf => ?_)
  refine gz_istore (lv := [.ref a0, .int x1, .int x2, .retAddr 0, .long (w0 + w1), .retAddr 0, .int y_2]) (pc := 138) dX9_held_138 (by decide) rfl ?_
  refine gz_goto (tgt := 92) (pc := 140) dX9_held_140 rfl ?_
  exact hk92 a0 x1 x2 (w0 + w1) y_2 h_1 hf
def fX9_held_130 (k50 : Nat → Int32 → Int32 → Int64 → gz_H → Option (Int32 × gz_H)) (k92 : Nat → Int32 → Int32 → Int64 → Int32 → gz_H → Option (Int32 × gz_H)) (a0 : Nat) (x1 : Int32) (x2 : Int32) (w0 : Int64) (h : gz_H) : Option (Int32 × gz_H) :=
    fX9_held_131 k50 k92 a0 x1 x2 w0 (0 : Int64) h
set_option maxRecDepth 100000 in
set_option maxHeartbeats 1000000 in
theorem sX9_held_130 {G : gz_G} {d l0 s0 : Nat} {Q : Int32 → gz_H → Prop} {k50 : Nat → Int32 → Int32 → Int64 → gz_H → Option (Int32 × gz_H)} {k92 : Nat → Int32 → Int32 → Int64 → Int32 → gz_H → Option (Int32 × gz_H)} (hk50 : ∀ (a0 : Nat) (x1 : Int32) (x2 : Int32) (x4 : Int64) (h : gz_H), gz_g (k50 a0 x1 x2 x4 h) Q → gz_Ok G mX9_held (d + 3, l0, s0, 0, 0) 50 [.ref a0, .int x1, .int x2, .retAddr 0, .long x4, .retAddr 0, .retAddr 0] [] h (gz_qi Q)) (hk92 : ∀ (a0 : Nat) (x1 : Int32) (x2 : Int32) (x4 : Int64) (x6 : Int32) (h : gz_H), gz_g (k92 a0 x1 x2 x4 x6 h) Q → gz_Ok G mX9_held (d + 3, l0, s0, 0, 0) 92 [.ref a0, .int x1, .int x2, .retAddr 0, .long x4, .retAddr 0, .int x6] [] h (gz_qi Q)) (a0 : Nat) (x1 : Int32) (x2 : Int32) (w0 : Int64) (h : gz_H) (hf : gz_g (fX9_held_130 k50 k92 a0 x1 x2 w0 h) Q) : gz_Ok G mX9_held (d + 3, l0, s0, 0, 0) 130 [.ref a0, .int x1, .int x2, .retAddr 0, .retAddr 0, .retAddr 0, .retAddr 0] [.long w0] h (gz_qi Q) := by
  unfold fX9_held_130 at hf
  refine gz_lconst (v := (0 : Int64)) (pc := 130) dX9_held_130 rfl ?_
  exact sX9_held_131 hk50 hk92 a0 x1 x2 w0 (0 : Int64) h hf
def fX9_held_92 (k50 : Nat → Int32 → Int32 → Int64 → gz_H → Option (Int32 × gz_H)) : Nat → Nat → Int32 → Int32 → Int64 → Int32 → gz_H → Option (Int32 × gz_H)
  | 0, _, _, _, _, _, _ => none
  | n + 1, a0, x1, x2, x4, x6, h =>
    if x6 = 0 then (
     gz_ck (gz_sh h a0 9 29) <|
     gz_lt (uI h a0 25 ((h.2.1 a0 25) + (1 : Int32))) fun h_3 =>
     k50 a0 x1 x2 x4 h_3
    ) else (
     gz_ck (gz_sh h a0 9 29) <|
     gz_b2 (fX9_areUnlike a0 h) fun y_5 h_4 =>
     if y_5 = 0 then (
      fX9_held_130 k50 (fun z0 z1 z2 z3 z4 zh => fX9_held_92 k50 n z0 z1 z2 z3 z4 zh) a0 x1 x2 x4 h_4
     ) else (
      gz_ck (gz_sh h_4 a0 9 29) <|
      gz_br (h_4.2.2.2 a0 4) fun r_9 =>
      gz_ck (gz_inb h_4 r_9 10 x1) <|
      gz_br (h_4.2.2.2 a0 5) fun r_11 =>
      gz_ck (gz_inb h_4 r_11 10 x1) <|
      gz_b2 (fX9_isSo a0 (h_4.2.1 r_9 x1.toNatClampNeg) (h_4.2.1 r_11 x1.toNatClampNeg) x2 h_4) fun y_14 h_13 =>
      if y_14 = 0 then (
       fX9_held_130 k50 (fun z0 z1 z2 z3 z4 zh => fX9_held_92 k50 n z0 z1 z2 z3 z4 zh) a0 x1 x2 x4 h_13
      ) else (
       fX9_held_131 k50 (fun z0 z1 z2 z3 z4 zh => fX9_held_92 k50 n z0 z1 z2 z3 z4 zh) a0 x1 x2 x4 (1 : Int64) h_13
      )
     )
    )
set_option maxRecDepth 100000 in
set_option maxHeartbeats 1000000 in
theorem sX9_held_92 {G : gz_G} {d l0 s0 : Nat} {Q : Int32 → gz_H → Prop} {k50 : Nat → Int32 → Int32 → Int64 → gz_H → Option (Int32 × gz_H)} (hk50 : ∀ (a0 : Nat) (x1 : Int32) (x2 : Int32) (x4 : Int64) (h : gz_H), gz_g (k50 a0 x1 x2 x4 h) Q → gz_Ok G mX9_held (d + 3, l0, s0, 0, 0) 50 [.ref a0, .int x1, .int x2, .retAddr 0, .long x4, .retAddr 0, .retAddr 0] [] h (gz_qi Q)) : ∀ (n : Nat) (a0 : Nat) (x1 : Int32) (x2 : Int32) (x4 : Int64) (x6 : Int32) (h : gz_H), gz_g (fX9_held_92 k50 n a0 x1 x2 x4 x6 h) Q → gz_Ok G mX9_held (d + 3, l0, s0, 0, 0) 92 [.ref a0, .int x1, .int x2, .retAddr 0, .long x4, .retAddr 0, .int x6] [] h (gz_qi Q) := by
  intro n
  induction n with
  | zero => intro a0 x1 x2 x4 x6 h hf; exact False.elim hf
  | succ n ih =>
    intro a0 x1 x2 x4 x6 h hf
    rw [fX9_held_92] at hf
    refine gz_iload (pc := 92) dX9_held_92 rfl ?_
    refine gz_if_eq (tgt := 143) (pc := 94) dX9_held_94 rfl (fun c_1 => ?_) (fun c_1 => ?_)
    · have hf := gz_gT hf c_1
      refine gz_aload_n (pc := 143) dX9_held_143 rfl rfl ?_
      refine gz_dup (pc := 144) dX9_held_144 rfl ?_
      refine gz_gk hf (fun c_2 hf => ?_)
      refine gz_getI (pc := 145) dX9_held_145 fl_RX9_164 rfl (gz_shs c_2) ?_
      refine gz_iconst (v := (1 : Int32)) (pc := 148) dX9_held_148 rfl ?_
      refine gz_iadd (pc := 149) dX9_held_149 ?_
      refine gz_putI (pc := 150) dX9_held_150 fw_X9_held_164 rfl rfl rfl (gz_shs c_2) ?_
      refine gz_nmH (fun h_3 eh_3 => ?_)
      have hf := gz_gl eh_3 hf
      refine gz_goto (tgt := 50) (pc := 153) dX9_held_153 rfl ?_
      refine gz_fg (lv := [.ref a0, .int x1, .int x2, .retAddr 0, .long x4, .retAddr 0, .retAddr 0]) ⟨Or.inr rfl, ⟨Or.inr rfl, ⟨Or.inr rfl, ⟨Or.inl rfl, ⟨Or.inr rfl, ⟨Or.inl rfl, ⟨Or.inl rfl, trivial⟩⟩⟩⟩⟩⟩⟩ ?_
      exact hk50 a0 x1 x2 x4 h_3 hf
    · have hf := gz_gF hf c_1
      refine gz_lload (pc := 97) dX9_held_97 rfl ?_
      refine gz_aload_n (pc := 99) dX9_held_99 rfl rfl ?_
      refine gz_gk hf (fun c_6 hf => ?_)
      refine gz_cVI (av := []) (st := [.long x4]) (pc := 100) dX9_held_100 kl_RX9_290 rfl (gz_shs c_6) rfl rfl (Nat.le_of_ble_eq_true rfl) (by show d + 1 + 1 + 1 ≤ d + 3; omega) (sX9_areUnlike (d := d + 1) (gz_gc hf)) (fun y_5 h_4 hf => ?_)
      refine gz_if_eq (tgt := 130) (pc := 103) dX9_held_103 rfl (fun c_7 => ?_) (fun c_7 => ?_)
      · have hf := gz_gT hf c_7
        refine gz_fg (lv := [.ref a0, .int x1, .int x2, .retAddr 0, .retAddr 0, .retAddr 0, .retAddr 0]) ⟨Or.inr rfl, ⟨Or.inr rfl, ⟨Or.inr rfl, ⟨Or.inl rfl, ⟨Or.inl rfl, ⟨Or.inl rfl, ⟨Or.inl rfl, trivial⟩⟩⟩⟩⟩⟩⟩ ?_
        exact sX9_held_130 hk50 ih a0 x1 x2 x4 h_4 hf
      · have hf := gz_gF hf c_7
        refine gz_aload_n (pc := 106) dX9_held_106 rfl rfl ?_
        refine gz_aload_n (pc := 107) dX9_held_107 rfl rfl ?_
        refine gz_gk hf (fun c_8 hf => ?_)
        refine gz_gb hf (fun r_9 er_9 hf => ?_)
        refine gz_getR (pc := 108) dX9_held_108 fl_RX9_16 rfl (gz_shs c_8) er_9 ?_
        refine gz_iload_n (pc := 111) dX9_held_111 rfl rfl ?_
        refine gz_gk hf (fun c_10 hf => ?_)
        refine gz_iald (pc := 112) dX9_held_112 c_10 ?_
        refine gz_aload_n (pc := 113) dX9_held_113 rfl rfl ?_
        refine gz_gb hf (fun r_11 er_11 hf => ?_)
        refine gz_getR (pc := 114) dX9_held_114 fl_RX9_19 rfl (gz_shs c_8) er_11 ?_
        refine gz_iload_n (pc := 117) dX9_held_117 rfl rfl ?_
        refine gz_gk hf (fun c_12 hf => ?_)
        refine gz_iald (pc := 118) dX9_held_118 c_12 ?_
        refine gz_iload_n (pc := 119) dX9_held_119 rfl rfl ?_
        refine gz_cVI (av := [.int (h_4.2.1 r_9 x1.toNatClampNeg), .int (h_4.2.1 r_11 x1.toNatClampNeg), .int x2]) (st := [.long x4]) (pc := 120) dX9_held_120 kl_RX9_293 rfl (gz_shs c_8) rfl rfl (Nat.le_of_ble_eq_true rfl) (by show d + 0 + 2 + 1 ≤ d + 3; omega) (sX9_isSo (d := d + 0) (gz_gc hf)) (fun y_14 h_13 hf => ?_)
        refine gz_if_eq (tgt := 130) (pc := 123) dX9_held_123 rfl (fun c_15 => ?_) (fun c_15 => ?_)
        · have hf := gz_gT hf c_15
          refine gz_fg (lv := [.ref a0, .int x1, .int x2, .retAddr 0, .retAddr 0, .retAddr 0, .retAddr 0]) ⟨Or.inr rfl, ⟨Or.inr rfl, ⟨Or.inr rfl, ⟨Or.inl rfl, ⟨Or.inl rfl, ⟨Or.inl rfl, ⟨Or.inl rfl, trivial⟩⟩⟩⟩⟩⟩⟩ ?_
          exact sX9_held_130 hk50 ih a0 x1 x2 x4 h_13 hf
        · have hf := gz_gF hf c_15
          refine gz_lconst (v := (1 : Int64)) (pc := 126) dX9_held_126 rfl ?_
          refine gz_goto (tgt := 131) (pc := 127) dX9_held_127 rfl ?_
          refine gz_fg (lv := [.ref a0, .int x1, .int x2, .retAddr 0, .retAddr 0, .retAddr 0, .retAddr 0]) ⟨Or.inr rfl, ⟨Or.inr rfl, ⟨Or.inr rfl, ⟨Or.inl rfl, ⟨Or.inl rfl, ⟨Or.inl rfl, ⟨Or.inl rfl, trivial⟩⟩⟩⟩⟩⟩⟩ ?_
          exact sX9_held_131 hk50 ih a0 x1 x2 x4 (1 : Int64) h_13 hf
def fX9_held_66 (k50 : Nat → Int32 → Int32 → Int64 → gz_H → Option (Int32 × gz_H)) : Nat → Nat → Int32 → Int32 → Int64 → Int32 → gz_H → Option (Int32 × gz_H)
  | 0, _, _, _, _, _, _ => none
  | n + 1, a0, x1, x2, x4, x6, h =>
    gz_ck (gz_sh h a0 9 29) <|
    if (h.2.1 a0 25) ≤ x6 then (
     fX9_held_92 k50 gz_fu a0 x1 x2 x4 (1 : Int32) h
    ) else (
     gz_br (h.2.2.2 a0 26) fun r_3 =>
     gz_ck (gz_inb h r_3 10 x6) <|
     gz_lt (uI h r_3 x6.toNatClampNeg (0 : Int32)) fun h_5 =>
     fX9_held_66 k50 n a0 x1 x2 x4 (x6 + 1) h_5
    )
set_option maxRecDepth 100000 in
set_option maxHeartbeats 1000000 in
theorem sX9_held_66 {G : gz_G} {d l0 s0 : Nat} {Q : Int32 → gz_H → Prop} {k50 : Nat → Int32 → Int32 → Int64 → gz_H → Option (Int32 × gz_H)} (hk50 : ∀ (a0 : Nat) (x1 : Int32) (x2 : Int32) (x4 : Int64) (h : gz_H), gz_g (k50 a0 x1 x2 x4 h) Q → gz_Ok G mX9_held (d + 3, l0, s0, 0, 0) 50 [.ref a0, .int x1, .int x2, .retAddr 0, .long x4, .retAddr 0, .retAddr 0] [] h (gz_qi Q)) : ∀ (n : Nat) (a0 : Nat) (x1 : Int32) (x2 : Int32) (x4 : Int64) (x6 : Int32) (h : gz_H), gz_g (fX9_held_66 k50 n a0 x1 x2 x4 x6 h) Q → gz_Ok G mX9_held (d + 3, l0, s0, 0, 0) 66 [.ref a0, .int x1, .int x2, .retAddr 0, .long x4, .retAddr 0, .int x6] [] h (gz_qi Q) := by
  intro n
  induction n with
  | zero => intro a0 x1 x2 x4 x6 h hf; exact False.elim hf
  | succ n ih =>
    intro a0 x1 x2 x4 x6 h hf
    rw [fX9_held_66] at hf
    refine gz_iload (pc := 66) dX9_held_66 rfl ?_
    refine gz_aload_n (pc := 68) dX9_held_68 rfl rfl ?_
    refine gz_gk hf (fun c_1 hf => ?_)
    refine gz_getI (pc := 69) dX9_held_69 fl_RX9_164 rfl (gz_shs c_1) ?_
    refine gz_icmp_ge (tgt := 89) (pc := 72) dX9_held_72 rfl (fun c_2 => ?_) (fun c_2 => ?_)
    · have hf := gz_gT hf c_2
      refine gz_iconst (v := (1 : Int32)) (pc := 89) dX9_held_89 rfl ?_
      refine gz_istore (lv := [.ref a0, .int x1, .int x2, .retAddr 0, .long x4, .retAddr 0, .int (1 : Int32)]) (pc := 90) dX9_held_90 (by decide) rfl ?_
      exact sX9_held_92 hk50 gz_fu a0 x1 x2 x4 (1 : Int32) h hf
    · have hf := gz_gF hf c_2
      refine gz_aload_n (pc := 75) dX9_held_75 rfl rfl ?_
      refine gz_gb hf (fun r_3 er_3 hf => ?_)
      refine gz_getR (pc := 76) dX9_held_76 fl_RX9_56 rfl (gz_shs c_1) er_3 ?_
      refine gz_iload (pc := 79) dX9_held_79 rfl ?_
      refine gz_iconst (v := (0 : Int32)) (pc := 81) dX9_held_81 rfl ?_
      refine gz_gk hf (fun c_4 hf => ?_)
      refine gz_iast (pc := 82) dX9_held_82 c_4 ?_
      refine gz_nmH (fun h_5 eh_5 => ?_)
      have hf := gz_gl eh_5 hf
      refine gz_iinc (v := x6 + 1) (lv := [.ref a0, .int x1, .int x2, .retAddr 0, .long x4, .retAddr 0, .int (x6 + 1)]) (pc := 83) dX9_held_83 rfl rfl (by decide) rfl ?_
      refine gz_goto (tgt := 66) (pc := 86) dX9_held_86 rfl ?_
      exact ih a0 x1 x2 x4 (x6 + 1) h_5 hf
def fX9_held_50  : Nat → Nat → Int32 → Int32 → Int64 → gz_H → Option (Int32 × gz_H)
  | 0, _, _, _, _, _ => none
  | n + 1, a0, x1, x2, x4, h =>
    gz_ck (gz_sh h a0 9 29) <|
    gz_br (h.2.2.2 a0 5) fun r_2 =>
    gz_ck (gz_inb h r_2 10 x1) <|
    if (h.2.1 r_2 x1.toNatClampNeg) < (h.2.1 a0 25) then (
     gz_lt (uL h a0 12 x4) fun h_5 =>
     gz_ck (gz_sh h_5 a0 9 29) <|
     gz_lt (uL h_5 a0 13 (1 : Int64)) fun h_7 =>
     some ((1 : Int32), h_7)
    ) else (
     fX9_held_66 (fun z0 z1 z2 z3 zh => fX9_held_50 n z0 z1 z2 z3 zh) gz_fu a0 x1 x2 x4 (0 : Int32) h
    )
set_option maxRecDepth 100000 in
set_option maxHeartbeats 1000000 in
theorem sX9_held_50 {G : gz_G} {d l0 s0 : Nat} {Q : Int32 → gz_H → Prop} : ∀ (n : Nat) (a0 : Nat) (x1 : Int32) (x2 : Int32) (x4 : Int64) (h : gz_H), gz_g (fX9_held_50  n a0 x1 x2 x4 h) Q → gz_Ok G mX9_held (d + 3, l0, s0, 0, 0) 50 [.ref a0, .int x1, .int x2, .retAddr 0, .long x4, .retAddr 0, .retAddr 0] [] h (gz_qi Q) := by
  intro n
  induction n with
  | zero => intro a0 x1 x2 x4 h hf; exact False.elim hf
  | succ n ih =>
    intro a0 x1 x2 x4 h hf
    rw [fX9_held_50] at hf
    refine gz_aload_n (pc := 50) dX9_held_50 rfl rfl ?_
    refine gz_gk hf (fun c_1 hf => ?_)
    refine gz_getI (pc := 51) dX9_held_51 fl_RX9_164 rfl (gz_shs c_1) ?_
    refine gz_aload_n (pc := 54) dX9_held_54 rfl rfl ?_
    refine gz_gb hf (fun r_2 er_2 hf => ?_)
    refine gz_getR (pc := 55) dX9_held_55 fl_RX9_19 rfl (gz_shs c_1) er_2 ?_
    refine gz_iload_n (pc := 58) dX9_held_58 rfl rfl ?_
    refine gz_gk hf (fun c_3 hf => ?_)
    refine gz_iald (pc := 59) dX9_held_59 c_3 ?_
    refine gz_icmp_gt (tgt := 156) (pc := 60) dX9_held_60 rfl (fun c_4 => ?_) (fun c_4 => ?_)
    · have hf := gz_gT hf c_4
      refine gz_aload_n (pc := 156) dX9_held_156 rfl rfl ?_
      refine gz_lload (pc := 157) dX9_held_157 rfl ?_
      refine gz_putL (pc := 159) dX9_held_159 fw_X9_held_278 rfl (gz_shs c_1) ?_
      refine gz_nmH (fun h_5 eh_5 => ?_)
      have hf := gz_gl eh_5 hf
      refine gz_aload_n (pc := 162) dX9_held_162 rfl rfl ?_
      refine gz_lconst (v := (1 : Int64)) (pc := 163) dX9_held_163 rfl ?_
      refine gz_gk hf (fun c_6 hf => ?_)
      refine gz_putL (pc := 164) dX9_held_164 fw_X9_held_37 rfl (gz_shs c_6) ?_
      refine gz_nmH (fun h_7 eh_7 => ?_)
      have hf := gz_gl eh_7 hf
      refine gz_iconst (v := (1 : Int32)) (pc := 167) dX9_held_167 rfl ?_
      exact gz_irt (pc := 168) dX9_held_168 rfl rfl hf
    · have hf := gz_gF hf c_4
      refine gz_iconst (v := (0 : Int32)) (pc := 63) dX9_held_63 rfl ?_
      refine gz_istore (lv := [.ref a0, .int x1, .int x2, .retAddr 0, .long x4, .retAddr 0, .int (0 : Int32)]) (pc := 64) dX9_held_64 (by decide) rfl ?_
      exact sX9_held_66 ih gz_fu a0 x1 x2 x4 (0 : Int32) h hf
def fX9_held_0  (a0 : Nat) (x1 : Int32) (x2 : Int32) (h : gz_H) : Option (Int32 × gz_H) :=
    gz_ck (gz_sh h a0 9 29) <|
    gz_b2 (fX9_isGoose a0 x1 h) fun y_2 h_1 =>
    if y_2 = 0 then (
     some ((-1 : Int32), h_1)
    ) else (
     gz_b2 (fX9_isRow x2 h_1) fun y_6 h_5 =>
     if y_6 = 0 then (
      some ((-1 : Int32), h_5)
     ) else (
      gz_ck (gz_sh h_5 a0 9 29) <|
      gz_br (h_5.2.2.2 a0 5) fun r_9 =>
      gz_ck (gz_inb h_5 r_9 10 x1) <|
      if (h_5.2.1 r_9 x1.toNatClampNeg) ≤ (4 : Int32) then (
       gz_b2 (fX9_noPairs a0 x2 h_5) fun y_13 h_12 =>
       if y_13 = 0 then (
        gz_ck (gz_sh h_12 a0 9 29) <|
        gz_lt (uI h_12 a0 25 (0 : Int32)) fun h_16 =>
        fX9_held_50 gz_fu a0 x1 x2 (0 : Int64) h_16
       ) else (
        some (y_13, h_12)
       )
      ) else (
       some ((-4 : Int32), h_5)
      )
     )
    )
set_option maxRecDepth 100000 in
set_option maxHeartbeats 1000000 in
theorem sX9_held_0 {G : gz_G} {d l0 s0 : Nat} {Q : Int32 → gz_H → Prop} (a0 : Nat) (x1 : Int32) (x2 : Int32) (h : gz_H) (hf : gz_g (fX9_held_0  a0 x1 x2 h) Q) : gz_Ok G mX9_held (d + 3, l0, s0, 0, 0) 0 [.ref a0, .int x1, .int x2, .retAddr 0, .retAddr 0, .retAddr 0, .retAddr 0] [] h (gz_qi Q) := by
  unfold fX9_held_0 at hf
  refine gz_aload_n (pc := 0) dX9_held_0 rfl rfl ?_
  refine gz_iload_n (pc := 1) dX9_held_1 rfl rfl ?_
  refine gz_gk hf (fun c_3 hf => ?_)
  refine gz_cVI (av := [.int x1]) (st := []) (pc := 2) dX9_held_2 kl_RX9_196 rfl (gz_shs c_3) rfl rfl (Nat.le_of_ble_eq_true rfl) (by show d + 1 + 1 + 1 ≤ d + 3; omega) (sX9_isGoose (d := d + 1) (gz_gc hf)) (fun y_2 h_1 hf => ?_)
  refine gz_if_eq (tgt := 15) (pc := 5) dX9_held_5 rfl (fun c_4 => ?_) (fun c_4 => ?_)
  · have hf := gz_gT hf c_4
    refine gz_iconst (v := (-1 : Int32)) (pc := 15) dX9_held_15 rfl ?_
    exact gz_irt (pc := 16) dX9_held_16 rfl rfl hf
  · have hf := gz_gF hf c_4
    refine gz_iload_n (pc := 8) dX9_held_8 rfl rfl ?_
    refine gz_cSI (av := [.int x2]) (st := []) (pc := 9) dX9_held_9 kl_RX9_80 rfl rfl (Nat.le_of_ble_eq_true rfl) (by show d + 1 + 1 + 1 ≤ d + 3; omega) (sX9_isRow (d := d + 1) (gz_gc hf)) (fun y_6 h_5 hf => ?_)
    refine gz_if_ne (tgt := 17) (pc := 12) dX9_held_12 rfl (fun c_7 => ?_) (fun c_7 => ?_)
    · have hf := gz_gF hf c_7
      refine gz_aload_n (pc := 17) dX9_held_17 rfl rfl ?_
      refine gz_gk hf (fun c_8 hf => ?_)
      refine gz_gb hf (fun r_9 er_9 hf => ?_)
      refine gz_getR (pc := 18) dX9_held_18 fl_RX9_19 rfl (gz_shs c_8) er_9 ?_
      refine gz_iload_n (pc := 21) dX9_held_21 rfl rfl ?_
      refine gz_gk hf (fun c_10 hf => ?_)
      refine gz_iald (pc := 22) dX9_held_22 c_10 ?_
      refine gz_iconst (v := (4 : Int32)) (pc := 23) dX9_held_23 rfl ?_
      refine gz_icmp_le (tgt := 30) (pc := 24) dX9_held_24 rfl (fun c_11 => ?_) (fun c_11 => ?_)
      · have hf := gz_gT hf c_11
        refine gz_aload_n (pc := 30) dX9_held_30 rfl rfl ?_
        refine gz_iload_n (pc := 31) dX9_held_31 rfl rfl ?_
        refine gz_cVI (av := [.int x2]) (st := []) (pc := 32) dX9_held_32 kl_RX9_287 rfl (gz_shs c_8) rfl rfl (Nat.le_of_ble_eq_true rfl) (by show d + 0 + 2 + 1 ≤ d + 3; omega) (sX9_noPairs (d := d + 0) (gz_gc hf)) (fun y_13 h_12 hf => ?_)
        refine gz_istore_n (lv := [.ref a0, .int x1, .int x2, .int y_13, .retAddr 0, .retAddr 0, .retAddr 0]) (pc := 35) dX9_held_35 rfl (by decide) rfl ?_
        refine gz_iload_n (pc := 36) dX9_held_36 rfl rfl ?_
        refine gz_if_eq (tgt := 42) (pc := 37) dX9_held_37 rfl (fun c_14 => ?_) (fun c_14 => ?_)
        · have hf := gz_gT hf c_14
          refine gz_lconst (v := (0 : Int64)) (pc := 42) dX9_held_42 rfl ?_
          refine gz_lstore (lv := [.ref a0, .int x1, .int x2, .int y_13, .long (0 : Int64), .retAddr 0, .retAddr 0]) (pc := 43) dX9_held_43 (by decide) rfl ?_
          refine gz_aload_n (pc := 45) dX9_held_45 rfl rfl ?_
          refine gz_iconst (v := (0 : Int32)) (pc := 46) dX9_held_46 rfl ?_
          refine gz_gk hf (fun c_15 hf => ?_)
          refine gz_putI (pc := 47) dX9_held_47 fw_X9_held_164 rfl rfl rfl (gz_shs c_15) ?_
          refine gz_nmH (fun h_16 eh_16 => ?_)
          have hf := gz_gl eh_16 hf
          refine gz_fg (lv := [.ref a0, .int x1, .int x2, .retAddr 0, .long (0 : Int64), .retAddr 0, .retAddr 0]) ⟨Or.inr rfl, ⟨Or.inr rfl, ⟨Or.inr rfl, ⟨Or.inl rfl, ⟨Or.inr rfl, ⟨Or.inl rfl, ⟨Or.inl rfl, trivial⟩⟩⟩⟩⟩⟩⟩ ?_
          exact sX9_held_50 gz_fu a0 x1 x2 (0 : Int64) h_16 hf
        · have hf := gz_gF hf c_14
          refine gz_iload_n (pc := 40) dX9_held_40 rfl rfl ?_
          exact gz_irt (pc := 41) dX9_held_41 rfl rfl hf
      · have hf := gz_gF hf c_11
        refine gz_bipush (v := (-4 : Int32)) (pc := 27) dX9_held_27 rfl ?_
        exact gz_irt (pc := 29) dX9_held_29 rfl rfl hf
    · have hf := gz_gT hf c_7
      refine gz_iconst (v := (-1 : Int32)) (pc := 15) dX9_held_15 rfl ?_
      exact gz_irt (pc := 16) dX9_held_16 rfl rfl hf
def fX9_held (a0 : Nat) (x1 : Int32) (x2 : Int32) (h : gz_H) : Option (Int32 × gz_H) := fX9_held_0 a0 x1 x2 h
theorem sX9_held {G : gz_G} {d : Nat} {a0 : Nat} {x1 : Int32} {x2 : Int32} {h : gz_H} {Q : Int32 → gz_H → Prop} (hf : gz_g (fX9_held a0 x1 x2 h) Q) : gz_Cl G mX9_held (d + 3) 0 0 [.ref a0, .int x1, .int x2] h (gz_qi Q) := gz_cl_of (lo := [.ref a0, .int x1, .int x2, .retAddr 0, .retAddr 0, .retAddr 0, .retAddr 0]) (by decide) rfl rfl (Nat.le_of_ble_eq_true rfl) (sX9_held_0 a0 x1 x2 h hf)
