theorem dX0_init_0 : decode cX0_init 0 = .ok (.aload_n 0, 1) := by decide +kernel
theorem dX0_init_1 : decode cX0_init 1 = .ok (.invokespecial 3, 3) := by decide +kernel
theorem dX0_init_4 : decode cX0_init 4 = .ok (.aload_n 0, 1) := by decide +kernel
theorem dX0_init_5 : decode cX0_init 5 = .ok (.bipush 6, 2) := by decide +kernel
theorem dX0_init_7 : decode cX0_init 7 = .ok (.newarray .int, 2) := by decide +kernel
theorem dX0_init_9 : decode cX0_init 9 = .ok (.putfield 9, 3) := by decide +kernel
theorem dX0_init_12 : decode cX0_init 12 = .ok (.return_, 1) := by decide +kernel
def fX0_init_0 (l0 s0 mc ms : Nat) (a0 : Nat) (h : gz_H) : Option (Unit × gz_H) :=
    gz_ck (gz_dc (¬ (6 : Int32) < 0 ∧ h.1.length < 999999 ∧ (6 : Int32).toNatClampNeg ≤ 100000 ∧ (h.1.length + 1 ≤ l0 + mc ∧ gz_ss h.1 + (6 : Int32).toNatClampNeg ≤ s0 + ms))) <|
    gz_lt (gz_al h (10, (6 : Int32).toNatClampNeg)) fun h_2 =>
    gz_ck (gz_sh h_2 a0 0 2) <|
    gz_lt (uR h_2 a0 0 (some h.1.length)) fun h_4 =>
    gz_ck (gz_dc (l0 + mc = h_4.1.length ∧ s0 + ms = gz_ss h_4.1)) <|
    some ((), h_4)
set_option maxRecDepth 100000 in
set_option maxHeartbeats 1000000 in
theorem sX0_init_0 {G : gz_G} {d l0 s0 mc ms : Nat} {Q : Unit → gz_H → Prop} (a0 : Nat) (h : gz_H) (hf : gz_g (fX0_init_0 l0 s0 mc ms a0 h) Q) : gz_Ok G mX0_init (d + 1, l0, s0, mc, ms) 0 [.ref a0] [] h (gz_qu Q) := by
  unfold fX0_init_0 at hf
  refine gz_aload_n (pc := 0) dX0_init_0 rfl rfl ?_
  refine gz_obj (pc := 1) dX0_init_1 kob_RX0_3 (by show 1 ≤ d + 1; omega) (Nat.le_of_ble_eq_true rfl) ?_
  refine gz_aload_n (pc := 4) dX0_init_4 rfl rfl ?_
  refine gz_bipush (v := (6 : Int32)) (pc := 5) dX0_init_5 rfl ?_
  refine gz_gk hf (fun c_1 hf => ?_)
  refine gz_newi (pc := 7) dX0_init_7 kw_int (gz_dcs c_1).1 (gz_dcs c_1).2.1 (gz_dcs c_1).2.2.1 (gz_dcs c_1).2.2.2 ?_
  refine gz_nmH (fun h_2 eh_2 => ?_)
  have hf := gz_gl eh_2 hf
  refine gz_gk hf (fun c_3 hf => ?_)
  refine gz_putR (pc := 9) dX0_init_9 fw_X0_init_9 rfl (gz_shs c_3) ?_
  refine gz_nmH (fun h_4 eh_4 => ?_)
  have hf := gz_gl eh_4 hf
  refine gz_gk hf (fun c_5 hf => ?_)
  exact gz_uretA (pc := 12) dX0_init_12 rfl (gz_dcs c_5).1 (gz_dcs c_5).2 hf
def fX0_init (mc ms : Nat) (a0 : Nat) (h : gz_H) : Option (Unit × gz_H) := fX0_init_0 h.1.length (gz_ss h.1) mc ms a0 h
theorem sX0_init {G : gz_G} {d mc ms : Nat} {a0 : Nat} {h : gz_H} {Q : Unit → gz_H → Prop} (hf : gz_g (fX0_init mc ms a0 h) Q) : gz_Cl G mX0_init (d + 1) mc ms [.ref a0] h (gz_qu Q) := gz_cl_of (lo := [.ref a0]) (by decide) rfl rfl (Nat.le_of_ble_eq_true rfl) (sX0_init_0 a0 h hf)
theorem dX0_answer_0 : decode cX0_answer 0 = .ok (.aload_n 0, 1) := by decide +kernel
theorem dX0_answer_1 : decode cX0_answer 1 = .ok (.iload_n 1, 1) := by decide +kernel
theorem dX0_answer_2 : decode cX0_answer 2 = .ok (.putfield 15, 3) := by decide +kernel
theorem dX0_answer_5 : decode cX0_answer 5 = .ok (.aload_n 0, 1) := by decide +kernel
theorem dX0_answer_6 : decode cX0_answer 6 = .ok (.getfield 9, 3) := by decide +kernel
theorem dX0_answer_9 : decode cX0_answer 9 = .ok (.iload_n 1, 1) := by decide +kernel
theorem dX0_answer_10 : decode cX0_answer 10 = .ok (.dup2, 1) := by decide +kernel
theorem dX0_answer_11 : decode cX0_answer 11 = .ok (.iaload, 1) := by decide +kernel
theorem dX0_answer_12 : decode cX0_answer 12 = .ok (.iconst 1, 1) := by decide +kernel
theorem dX0_answer_13 : decode cX0_answer 13 = .ok (.iadd, 1) := by decide +kernel
theorem dX0_answer_14 : decode cX0_answer 14 = .ok (.iastore, 1) := by decide +kernel
theorem dX0_answer_15 : decode cX0_answer 15 = .ok (.bipush (-3), 2) := by decide +kernel
theorem dX0_answer_17 : decode cX0_answer 17 = .ok (.ireturn, 1) := by decide +kernel
def fX0_answer_0  (a0 : Nat) (x1 : Int32) (h : gz_H) : Option (Int32 × gz_H) :=
    gz_ck (gz_sh h a0 0 2) <|
    gz_lt (uI h a0 1 x1) fun h_2 =>
    gz_ck (gz_sh h_2 a0 0 2) <|
    gz_br (h_2.2.2.2 a0 0) fun r_4 =>
    gz_ck (gz_inb h_2 r_4 10 x1) <|
    gz_lt (uI h_2 r_4 x1.toNatClampNeg ((h_2.2.1 r_4 x1.toNatClampNeg) + (1 : Int32))) fun h_6 =>
    some ((-3 : Int32), h_6)
set_option maxRecDepth 100000 in
set_option maxHeartbeats 1000000 in
theorem sX0_answer_0 {G : gz_G} {d l0 s0 : Nat} {Q : Int32 → gz_H → Prop} (a0 : Nat) (x1 : Int32) (h : gz_H) (hf : gz_g (fX0_answer_0  a0 x1 h) Q) : gz_Ok G mX0_answer (d + 0, l0, s0, 0, 0) 0 [.ref a0, .int x1] [] h (gz_qi Q) := by
  unfold fX0_answer_0 at hf
  refine gz_aload_n (pc := 0) dX0_answer_0 rfl rfl ?_
  refine gz_iload_n (pc := 1) dX0_answer_1 rfl rfl ?_
  refine gz_gk hf (fun c_1 hf => ?_)
  refine gz_putI (pc := 2) dX0_answer_2 fw_X0_answer_15 rfl rfl rfl (gz_shs c_1) ?_
  refine gz_nmH (fun h_2 eh_2 => ?_)
  have hf := gz_gl eh_2 hf
  refine gz_aload_n (pc := 5) dX0_answer_5 rfl rfl ?_
  refine gz_gk hf (fun c_3 hf => ?_)
  refine gz_gb hf (fun r_4 er_4 hf => ?_)
  refine gz_getR (pc := 6) dX0_answer_6 fl_RX0_9 rfl (gz_shs c_3) er_4 ?_
  refine gz_iload_n (pc := 9) dX0_answer_9 rfl rfl ?_
  refine gz_dup2 (pc := 10) dX0_answer_10 rfl rfl ?_
  refine gz_gk hf (fun c_5 hf => ?_)
  refine gz_iald (pc := 11) dX0_answer_11 c_5 ?_
  refine gz_iconst (v := (1 : Int32)) (pc := 12) dX0_answer_12 rfl ?_
  refine gz_iadd (pc := 13) dX0_answer_13 ?_
  refine gz_iast (pc := 14) dX0_answer_14 c_5 ?_
  refine gz_nmH (fun h_6 eh_6 => ?_)
  have hf := gz_gl eh_6 hf
  refine gz_bipush (v := (-3 : Int32)) (pc := 15) dX0_answer_15 rfl ?_
  exact gz_irt (pc := 17) dX0_answer_17 rfl rfl hf
def fX0_answer (a0 : Nat) (x1 : Int32) (h : gz_H) : Option (Int32 × gz_H) := fX0_answer_0 a0 x1 h
theorem sX0_answer {G : gz_G} {d : Nat} {a0 : Nat} {x1 : Int32} {h : gz_H} {Q : Int32 → gz_H → Prop} (hf : gz_g (fX0_answer a0 x1 h) Q) : gz_Cl G mX0_answer (d + 0) 0 0 [.ref a0, .int x1] h (gz_qi Q) := gz_cl_of (lo := [.ref a0, .int x1]) (by decide) rfl rfl (Nat.le_of_ble_eq_true rfl) (sX0_answer_0 a0 x1 h hf)
theorem dX2_init_0 : decode cX2_init 0 = .ok (.aload_n 0, 1) := by decide +kernel
theorem dX2_init_1 : decode cX2_init 1 = .ok (.invokespecial 3, 3) := by decide +kernel
theorem dX2_init_4 : decode cX2_init 4 = .ok (.aload_n 0, 1) := by decide +kernel
theorem dX2_init_5 : decode cX2_init 5 = .ok (.bipush 8, 2) := by decide +kernel
theorem dX2_init_7 : decode cX2_init 7 = .ok (.newarray .int, 2) := by decide +kernel
theorem dX2_init_9 : decode cX2_init 9 = .ok (.putfield 9, 3) := by decide +kernel
theorem dX2_init_12 : decode cX2_init 12 = .ok (.return_, 1) := by decide +kernel
def fX2_init_0 (l0 s0 mc ms : Nat) (a0 : Nat) (h : gz_H) : Option (Unit × gz_H) :=
    gz_ck (gz_dc (¬ (8 : Int32) < 0 ∧ h.1.length < 999999 ∧ (8 : Int32).toNatClampNeg ≤ 100000 ∧ (h.1.length + 1 ≤ l0 + mc ∧ gz_ss h.1 + (8 : Int32).toNatClampNeg ≤ s0 + ms))) <|
    gz_lt (gz_al h (10, (8 : Int32).toNatClampNeg)) fun h_2 =>
    gz_ck (gz_sh h_2 a0 2 6) <|
    gz_lt (uR h_2 a0 0 (some h.1.length)) fun h_4 =>
    gz_ck (gz_dc (l0 + mc = h_4.1.length ∧ s0 + ms = gz_ss h_4.1)) <|
    some ((), h_4)
set_option maxRecDepth 100000 in
set_option maxHeartbeats 1000000 in
theorem sX2_init_0 {G : gz_G} {d l0 s0 mc ms : Nat} {Q : Unit → gz_H → Prop} (a0 : Nat) (h : gz_H) (hf : gz_g (fX2_init_0 l0 s0 mc ms a0 h) Q) : gz_Ok G mX2_init (d + 1, l0, s0, mc, ms) 0 [.ref a0] [] h (gz_qu Q) := by
  unfold fX2_init_0 at hf
  refine gz_aload_n (pc := 0) dX2_init_0 rfl rfl ?_
  refine gz_obj (pc := 1) dX2_init_1 kob_RX2_3 (by show 1 ≤ d + 1; omega) (Nat.le_of_ble_eq_true rfl) ?_
  refine gz_aload_n (pc := 4) dX2_init_4 rfl rfl ?_
  refine gz_bipush (v := (8 : Int32)) (pc := 5) dX2_init_5 rfl ?_
  refine gz_gk hf (fun c_1 hf => ?_)
  refine gz_newi (pc := 7) dX2_init_7 kw_int (gz_dcs c_1).1 (gz_dcs c_1).2.1 (gz_dcs c_1).2.2.1 (gz_dcs c_1).2.2.2 ?_
  refine gz_nmH (fun h_2 eh_2 => ?_)
  have hf := gz_gl eh_2 hf
  refine gz_gk hf (fun c_3 hf => ?_)
  refine gz_putR (pc := 9) dX2_init_9 fw_X2_init_9 rfl (gz_shs c_3) ?_
  refine gz_nmH (fun h_4 eh_4 => ?_)
  have hf := gz_gl eh_4 hf
  refine gz_gk hf (fun c_5 hf => ?_)
  exact gz_uretA (pc := 12) dX2_init_12 rfl (gz_dcs c_5).1 (gz_dcs c_5).2 hf
def fX2_init (mc ms : Nat) (a0 : Nat) (h : gz_H) : Option (Unit × gz_H) := fX2_init_0 h.1.length (gz_ss h.1) mc ms a0 h
theorem sX2_init {G : gz_G} {d mc ms : Nat} {a0 : Nat} {h : gz_H} {Q : Unit → gz_H → Prop} (hf : gz_g (fX2_init mc ms a0 h) Q) : gz_Cl G mX2_init (d + 1) mc ms [.ref a0] h (gz_qu Q) := gz_cl_of (lo := [.ref a0]) (by decide) rfl rfl (Nat.le_of_ble_eq_true rfl) (sX2_init_0 a0 h hf)
theorem dX1_init_0 : decode cX1_init 0 = .ok (.aload_n 0, 1) := by decide +kernel
theorem dX1_init_1 : decode cX1_init 1 = .ok (.invokespecial 3, 3) := by decide +kernel
theorem dX1_init_4 : decode cX1_init 4 = .ok (.aload_n 0, 1) := by decide +kernel
theorem dX1_init_5 : decode cX1_init 5 = .ok (.bipush 8, 2) := by decide +kernel
theorem dX1_init_7 : decode cX1_init 7 = .ok (.newarray .int, 2) := by decide +kernel
theorem dX1_init_9 : decode cX1_init 9 = .ok (.putfield 9, 3) := by decide +kernel
theorem dX1_init_12 : decode cX1_init 12 = .ok (.aload_n 0, 1) := by decide +kernel
theorem dX1_init_13 : decode cX1_init 13 = .ok (.bipush 6, 2) := by decide +kernel
theorem dX1_init_15 : decode cX1_init 15 = .ok (.anewarray 15, 3) := by decide +kernel
theorem dX1_init_18 : decode cX1_init 18 = .ok (.putfield 17, 3) := by decide +kernel
theorem dX1_init_21 : decode cX1_init 21 = .ok (.iconst 0, 1) := by decide +kernel
theorem dX1_init_22 : decode cX1_init 22 = .ok (.istore_n 1, 1) := by decide +kernel
theorem dX1_init_23 : decode cX1_init 23 = .ok (.iload_n 1, 1) := by decide +kernel
theorem dX1_init_24 : decode cX1_init 24 = .ok (.bipush 6, 2) := by decide +kernel
theorem dX1_init_26 : decode cX1_init 26 = .ok (.if_icmp .ge 22, 3) := by decide +kernel
theorem dX1_init_29 : decode cX1_init 29 = .ok (.aload_n 0, 1) := by decide +kernel
theorem dX1_init_30 : decode cX1_init 30 = .ok (.getfield 17, 3) := by decide +kernel
theorem dX1_init_33 : decode cX1_init 33 = .ok (.iload_n 1, 1) := by decide +kernel
theorem dX1_init_34 : decode cX1_init 34 = .ok (.new 15, 3) := by decide +kernel
theorem dX1_init_37 : decode cX1_init 37 = .ok (.dup, 1) := by decide +kernel
theorem dX1_init_38 : decode cX1_init 38 = .ok (.invokespecial 21, 3) := by decide +kernel
theorem dX1_init_41 : decode cX1_init 41 = .ok (.aastore, 1) := by decide +kernel
theorem dX1_init_42 : decode cX1_init 42 = .ok (.iinc 1 1, 3) := by decide +kernel
theorem dX1_init_45 : decode cX1_init 45 = .ok (.goto (-22), 3) := by decide +kernel
theorem dX1_init_48 : decode cX1_init 48 = .ok (.return_, 1) := by decide +kernel
def fX1_init_23 (l0 s0 mc ms : Nat) : Nat → Nat → Int32 → gz_H → Option (Unit × gz_H)
  | 0, _, _, _ => none
  | n + 1, a0, x1, h =>
    if (6 : Int32) ≤ x1 then (
     gz_ck (gz_dc (l0 + mc = h.1.length ∧ s0 + ms = gz_ss h.1)) <|
     some ((), h)
    ) else (
     gz_ck (gz_sh h a0 1 4) <|
     gz_br (h.2.2.2 a0 1) fun r_4 =>
     gz_ck (gz_dc (h.1.length < 999999 ∧ (h.1.length + 1 ≤ l0 + mc ∧ gz_ss h.1 + 6 ≤ s0 + ms))) <|
     gz_lt (gz_al h (2, 6)) fun h_6 =>
     gz_ck (gz_dc (h_6.1.length + 1 ≤ l0 + mc ∧ gz_ss h_6.1 + 8 ≤ s0 + ms)) <|
     gz_b2 (fX2_init 1 8 h.1.length h_6) fun _ h_7 =>
     gz_ck (gz_inb h_7 r_4 11 x1) <|
     gz_ck (gz_sh h_7 h.1.length 2 6) <|
     gz_lt (uR h_7 r_4 x1.toNatClampNeg (some h.1.length)) fun h_12 =>
     fX1_init_23 l0 s0 mc ms n a0 (x1 + 1) h_12
    )
set_option maxRecDepth 100000 in
set_option maxHeartbeats 1000000 in
theorem sX1_init_23 {G : gz_G} {d l0 s0 mc ms : Nat} {Q : Unit → gz_H → Prop} : ∀ (n : Nat) (a0 : Nat) (x1 : Int32) (h : gz_H), gz_g (fX1_init_23 l0 s0 mc ms n a0 x1 h) Q → gz_Ok G mX1_init (d + 2, l0, s0, mc, ms) 23 [.ref a0, .int x1] [] h (gz_qu Q) := by
  intro n
  induction n with
  | zero => intro a0 x1 h hf; exact False.elim hf
  | succ n ih =>
    intro a0 x1 h hf
    rw [fX1_init_23] at hf
    refine gz_iload_n (pc := 23) dX1_init_23 rfl rfl ?_
    refine gz_bipush (v := (6 : Int32)) (pc := 24) dX1_init_24 rfl ?_
    refine gz_icmp_ge (tgt := 48) (pc := 26) dX1_init_26 rfl (fun c_1 => ?_) (fun c_1 => ?_)
    · have hf := gz_gT hf c_1
      refine gz_gk hf (fun c_2 hf => ?_)
      exact gz_uretA (pc := 48) dX1_init_48 rfl (gz_dcs c_2).1 (gz_dcs c_2).2 hf
    · have hf := gz_gF hf c_1
      refine gz_aload_n (pc := 29) dX1_init_29 rfl rfl ?_
      refine gz_gk hf (fun c_3 hf => ?_)
      refine gz_gb hf (fun r_4 er_4 hf => ?_)
      refine gz_getR (pc := 30) dX1_init_30 fl_RX1_17 rfl (gz_shs c_3) er_4 ?_
      refine gz_iload_n (pc := 33) dX1_init_33 rfl rfl ?_
      refine gz_gk hf (fun c_5 hf => ?_)
      refine gz_new (pc := 34) dX1_init_34 kn_RX1_15 (gz_dcs c_5).1 (gz_dcs c_5).2 ?_
      refine gz_nmH (fun h_6 eh_6 => ?_)
      have hf := gz_gl eh_6 hf
      refine gz_dup (pc := 37) dX1_init_37 rfl ?_
      refine gz_gk hf (fun c_9 hf => ?_)
      refine gz_cIV (av := []) (st := [.ref h.1.length, .int x1, .ref r_4]) (pc := 38) dX1_init_38 kl_RX1_21 rfl rfl (Nat.le_of_ble_eq_true rfl) (by show d + 0 + 1 + 1 ≤ d + 2; omega) (gz_dcs c_9) (sX2_init (d := d + 0) (mc := 1) (ms := 8) (gz_gc hf)) (fun _ h_7 hf => ?_)
      refine gz_gk hf (fun c_10 hf => ?_)
      refine gz_gk hf (fun c_11 hf => ?_)
      refine gz_aast (Or.inl ⟨rfl, rfl, rfl⟩) (pc := 41) dX1_init_41 c_10 (gz_shs c_11) ?_
      refine gz_nmH (fun h_12 eh_12 => ?_)
      have hf := gz_gl eh_12 hf
      refine gz_iinc (v := x1 + 1) (lv := [.ref a0, .int (x1 + 1)]) (pc := 42) dX1_init_42 rfl rfl (by decide) rfl ?_
      refine gz_goto (tgt := 23) (pc := 45) dX1_init_45 rfl ?_
      exact ih a0 (x1 + 1) h_12 hf
def fX1_init_0 (l0 s0 mc ms : Nat) (a0 : Nat) (h : gz_H) : Option (Unit × gz_H) :=
    gz_ck (gz_dc (¬ (8 : Int32) < 0 ∧ h.1.length < 999999 ∧ (8 : Int32).toNatClampNeg ≤ 100000 ∧ (h.1.length + 1 ≤ l0 + mc ∧ gz_ss h.1 + (8 : Int32).toNatClampNeg ≤ s0 + ms))) <|
    gz_lt (gz_al h (10, (8 : Int32).toNatClampNeg)) fun h_2 =>
    gz_ck (gz_sh h_2 a0 1 4) <|
    gz_lt (uR h_2 a0 0 (some h.1.length)) fun h_4 =>
    gz_ck (gz_dc (¬ (6 : Int32) < 0 ∧ h_4.1.length < 999999 ∧ (6 : Int32).toNatClampNeg ≤ 100000 ∧ (h_4.1.length + 1 ≤ l0 + mc ∧ gz_ss h_4.1 + (6 : Int32).toNatClampNeg ≤ s0 + ms))) <|
    gz_lt (gz_al h_4 (11, (6 : Int32).toNatClampNeg)) fun h_6 =>
    gz_ck (gz_sh h_6 a0 1 4) <|
    gz_lt (uR h_6 a0 1 (some h_4.1.length)) fun h_8 =>
    fX1_init_23 l0 s0 mc ms gz_fu a0 (0 : Int32) h_8
set_option maxRecDepth 100000 in
set_option maxHeartbeats 1000000 in
theorem sX1_init_0 {G : gz_G} {d l0 s0 mc ms : Nat} {Q : Unit → gz_H → Prop} (a0 : Nat) (h : gz_H) (hf : gz_g (fX1_init_0 l0 s0 mc ms a0 h) Q) : gz_Ok G mX1_init (d + 2, l0, s0, mc, ms) 0 [.ref a0, .retAddr 0] [] h (gz_qu Q) := by
  unfold fX1_init_0 at hf
  refine gz_aload_n (pc := 0) dX1_init_0 rfl rfl ?_
  refine gz_obj (pc := 1) dX1_init_1 kob_RX1_3 (by show 1 ≤ d + 2; omega) (Nat.le_of_ble_eq_true rfl) ?_
  refine gz_aload_n (pc := 4) dX1_init_4 rfl rfl ?_
  refine gz_bipush (v := (8 : Int32)) (pc := 5) dX1_init_5 rfl ?_
  refine gz_gk hf (fun c_1 hf => ?_)
  refine gz_newi (pc := 7) dX1_init_7 kw_int (gz_dcs c_1).1 (gz_dcs c_1).2.1 (gz_dcs c_1).2.2.1 (gz_dcs c_1).2.2.2 ?_
  refine gz_nmH (fun h_2 eh_2 => ?_)
  have hf := gz_gl eh_2 hf
  refine gz_gk hf (fun c_3 hf => ?_)
  refine gz_putR (pc := 9) dX1_init_9 fw_X1_init_9 rfl (gz_shs c_3) ?_
  refine gz_nmH (fun h_4 eh_4 => ?_)
  have hf := gz_gl eh_4 hf
  refine gz_aload_n (pc := 12) dX1_init_12 rfl rfl ?_
  refine gz_bipush (v := (6 : Int32)) (pc := 13) dX1_init_13 rfl ?_
  refine gz_gk hf (fun c_5 hf => ?_)
  refine gz_newq (Or.inl ⟨rfl, rfl⟩) (pc := 15) dX1_init_15 kcl_RX1_15 (gz_dcs c_5).1 (gz_dcs c_5).2.1 (gz_dcs c_5).2.2.1 (gz_dcs c_5).2.2.2 ?_
  refine gz_nmH (fun h_6 eh_6 => ?_)
  have hf := gz_gl eh_6 hf
  refine gz_gk hf (fun c_7 hf => ?_)
  refine gz_putR (pc := 18) dX1_init_18 fw_X1_init_17 rfl (gz_shs c_7) ?_
  refine gz_nmH (fun h_8 eh_8 => ?_)
  have hf := gz_gl eh_8 hf
  refine gz_iconst (v := (0 : Int32)) (pc := 21) dX1_init_21 rfl ?_
  refine gz_istore_n (lv := [.ref a0, .int (0 : Int32)]) (pc := 22) dX1_init_22 rfl (by decide) rfl ?_
  exact sX1_init_23 gz_fu a0 (0 : Int32) h_8 hf
def fX1_init (mc ms : Nat) (a0 : Nat) (h : gz_H) : Option (Unit × gz_H) := fX1_init_0 h.1.length (gz_ss h.1) mc ms a0 h
theorem sX1_init {G : gz_G} {d mc ms : Nat} {a0 : Nat} {h : gz_H} {Q : Unit → gz_H → Prop} (hf : gz_g (fX1_init mc ms a0 h) Q) : gz_Cl G mX1_init (d + 2) mc ms [.ref a0] h (gz_qu Q) := gz_cl_of (lo := [.ref a0, .retAddr 0]) (by decide) rfl rfl (Nat.le_of_ble_eq_true rfl) (sX1_init_0 a0 h hf)
theorem dX2_become_0 : decode cX2_become 0 = .ok (.aload_n 0, 1) := by decide +kernel
theorem dX2_become_1 : decode cX2_become 1 = .ok (.iload_n 1, 1) := by decide +kernel
theorem dX2_become_2 : decode cX2_become 2 = .ok (.putfield 15, 3) := by decide +kernel
theorem dX2_become_5 : decode cX2_become 5 = .ok (.aload_n 0, 1) := by decide +kernel
theorem dX2_become_6 : decode cX2_become 6 = .ok (.iload_n 2, 1) := by decide +kernel
theorem dX2_become_7 : decode cX2_become 7 = .ok (.putfield 19, 3) := by decide +kernel
theorem dX2_become_10 : decode cX2_become 10 = .ok (.aload_n 0, 1) := by decide +kernel
theorem dX2_become_11 : decode cX2_become 11 = .ok (.iload_n 3, 1) := by decide +kernel
theorem dX2_become_12 : decode cX2_become 12 = .ok (.putfield 22, 3) := by decide +kernel
theorem dX2_become_15 : decode cX2_become 15 = .ok (.aload_n 0, 1) := by decide +kernel
theorem dX2_become_16 : decode cX2_become 16 = .ok (.iconst 0, 1) := by decide +kernel
theorem dX2_become_17 : decode cX2_become 17 = .ok (.putfield 25, 3) := by decide +kernel
theorem dX2_become_20 : decode cX2_become 20 = .ok (.aload_n 0, 1) := by decide +kernel
theorem dX2_become_21 : decode cX2_become 21 = .ok (.iconst 0, 1) := by decide +kernel
theorem dX2_become_22 : decode cX2_become 22 = .ok (.putfield 28, 3) := by decide +kernel
theorem dX2_become_25 : decode cX2_become 25 = .ok (.return_, 1) := by decide +kernel
def fX2_become_0  (a0 : Nat) (x1 : Int32) (x2 : Int32) (x3 : Int32) (h : gz_H) : Option (Unit × gz_H) :=
    gz_ck (gz_sh h a0 2 6) <|
    gz_lt (uI h a0 2 x1) fun h_2 =>
    gz_ck (gz_sh h_2 a0 2 6) <|
    gz_lt (uI h_2 a0 3 x2) fun h_4 =>
    gz_ck (gz_sh h_4 a0 2 6) <|
    gz_lt (uI h_4 a0 4 x3) fun h_6 =>
    gz_ck (gz_sh h_6 a0 2 6) <|
    gz_lt (uI h_6 a0 1 (0 : Int32)) fun h_8 =>
    gz_ck (gz_sh h_8 a0 2 6) <|
    gz_lt (uI h_8 a0 5 (0 : Int32)) fun h_10 =>
    some ((), h_10)
set_option maxRecDepth 100000 in
set_option maxHeartbeats 1000000 in
theorem sX2_become_0 {G : gz_G} {d l0 s0 : Nat} {Q : Unit → gz_H → Prop} (a0 : Nat) (x1 : Int32) (x2 : Int32) (x3 : Int32) (h : gz_H) (hf : gz_g (fX2_become_0  a0 x1 x2 x3 h) Q) : gz_Ok G mX2_become (d + 0, l0, s0, 0, 0) 0 [.ref a0, .int x1, .int x2, .int x3] [] h (gz_qu Q) := by
  unfold fX2_become_0 at hf
  refine gz_aload_n (pc := 0) dX2_become_0 rfl rfl ?_
  refine gz_iload_n (pc := 1) dX2_become_1 rfl rfl ?_
  refine gz_gk hf (fun c_1 hf => ?_)
  refine gz_putI (pc := 2) dX2_become_2 fw_X2_become_15 rfl rfl rfl (gz_shs c_1) ?_
  refine gz_nmH (fun h_2 eh_2 => ?_)
  have hf := gz_gl eh_2 hf
  refine gz_aload_n (pc := 5) dX2_become_5 rfl rfl ?_
  refine gz_iload_n (pc := 6) dX2_become_6 rfl rfl ?_
  refine gz_gk hf (fun c_3 hf => ?_)
  refine gz_putI (pc := 7) dX2_become_7 fw_X2_become_19 rfl rfl rfl (gz_shs c_3) ?_
  refine gz_nmH (fun h_4 eh_4 => ?_)
  have hf := gz_gl eh_4 hf
  refine gz_aload_n (pc := 10) dX2_become_10 rfl rfl ?_
  refine gz_iload_n (pc := 11) dX2_become_11 rfl rfl ?_
  refine gz_gk hf (fun c_5 hf => ?_)
  refine gz_putI (pc := 12) dX2_become_12 fw_X2_become_22 rfl rfl rfl (gz_shs c_5) ?_
  refine gz_nmH (fun h_6 eh_6 => ?_)
  have hf := gz_gl eh_6 hf
  refine gz_aload_n (pc := 15) dX2_become_15 rfl rfl ?_
  refine gz_iconst (v := (0 : Int32)) (pc := 16) dX2_become_16 rfl ?_
  refine gz_gk hf (fun c_7 hf => ?_)
  refine gz_putI (pc := 17) dX2_become_17 fw_X2_become_25 rfl rfl rfl (gz_shs c_7) ?_
  refine gz_nmH (fun h_8 eh_8 => ?_)
  have hf := gz_gl eh_8 hf
  refine gz_aload_n (pc := 20) dX2_become_20 rfl rfl ?_
  refine gz_iconst (v := (0 : Int32)) (pc := 21) dX2_become_21 rfl ?_
  refine gz_gk hf (fun c_9 hf => ?_)
  refine gz_putI (pc := 22) dX2_become_22 fw_X2_become_28 rfl rfl rfl (gz_shs c_9) ?_
  refine gz_nmH (fun h_10 eh_10 => ?_)
  have hf := gz_gl eh_10 hf
  exact gz_uret (pc := 25) dX2_become_25 rfl hf
def fX2_become (a0 : Nat) (x1 : Int32) (x2 : Int32) (x3 : Int32) (h : gz_H) : Option (Unit × gz_H) := fX2_become_0 a0 x1 x2 x3 h
theorem sX2_become {G : gz_G} {d : Nat} {a0 : Nat} {x1 : Int32} {x2 : Int32} {x3 : Int32} {h : gz_H} {Q : Unit → gz_H → Prop} (hf : gz_g (fX2_become a0 x1 x2 x3 h) Q) : gz_Cl G mX2_become (d + 0) 0 0 [.ref a0, .int x1, .int x2, .int x3] h (gz_qu Q) := gz_cl_of (lo := [.ref a0, .int x1, .int x2, .int x3]) (by decide) rfl rfl (Nat.le_of_ble_eq_true rfl) (sX2_become_0 a0 x1 x2 x3 h hf)
theorem dX2_becomeLike_0 : decode cX2_becomeLike 0 = .ok (.aload_n 0, 1) := by decide +kernel
theorem dX2_becomeLike_1 : decode cX2_becomeLike 1 = .ok (.aload_n 1, 1) := by decide +kernel
theorem dX2_becomeLike_2 : decode cX2_becomeLike 2 = .ok (.getfield 15, 3) := by decide +kernel
theorem dX2_becomeLike_5 : decode cX2_becomeLike 5 = .ok (.aload_n 1, 1) := by decide +kernel
theorem dX2_becomeLike_6 : decode cX2_becomeLike 6 = .ok (.getfield 19, 3) := by decide +kernel
theorem dX2_becomeLike_9 : decode cX2_becomeLike 9 = .ok (.aload_n 1, 1) := by decide +kernel
theorem dX2_becomeLike_10 : decode cX2_becomeLike 10 = .ok (.getfield 22, 3) := by decide +kernel
theorem dX2_becomeLike_13 : decode cX2_becomeLike 13 = .ok (.invokevirtual 32, 3) := by decide +kernel
theorem dX2_becomeLike_16 : decode cX2_becomeLike 16 = .ok (.aload_n 1, 1) := by decide +kernel
theorem dX2_becomeLike_17 : decode cX2_becomeLike 17 = .ok (.getfield 9, 3) := by decide +kernel
theorem dX2_becomeLike_20 : decode cX2_becomeLike 20 = .ok (.iconst 0, 1) := by decide +kernel
theorem dX2_becomeLike_21 : decode cX2_becomeLike 21 = .ok (.aload_n 0, 1) := by decide +kernel
theorem dX2_becomeLike_22 : decode cX2_becomeLike 22 = .ok (.getfield 9, 3) := by decide +kernel
theorem dX2_becomeLike_25 : decode cX2_becomeLike 25 = .ok (.iconst 0, 1) := by decide +kernel
theorem dX2_becomeLike_26 : decode cX2_becomeLike 26 = .ok (.bipush 8, 2) := by decide +kernel
theorem dX2_becomeLike_28 : decode cX2_becomeLike 28 = .ok (.invokestatic 36, 3) := by decide +kernel
theorem dX2_becomeLike_31 : decode cX2_becomeLike 31 = .ok (.aload_n 0, 1) := by decide +kernel
theorem dX2_becomeLike_32 : decode cX2_becomeLike 32 = .ok (.aload_n 1, 1) := by decide +kernel
theorem dX2_becomeLike_33 : decode cX2_becomeLike 33 = .ok (.getfield 25, 3) := by decide +kernel
theorem dX2_becomeLike_36 : decode cX2_becomeLike 36 = .ok (.putfield 25, 3) := by decide +kernel
theorem dX2_becomeLike_39 : decode cX2_becomeLike 39 = .ok (.aload_n 0, 1) := by decide +kernel
theorem dX2_becomeLike_40 : decode cX2_becomeLike 40 = .ok (.aload_n 1, 1) := by decide +kernel
theorem dX2_becomeLike_41 : decode cX2_becomeLike 41 = .ok (.getfield 28, 3) := by decide +kernel
theorem dX2_becomeLike_44 : decode cX2_becomeLike 44 = .ok (.putfield 28, 3) := by decide +kernel
theorem dX2_becomeLike_47 : decode cX2_becomeLike 47 = .ok (.return_, 1) := by decide +kernel
def fX2_becomeLike_0  (a0 : Nat) (a1 : Nat) (h : gz_H) : Option (Unit × gz_H) :=
    gz_ck (gz_sh h a1 2 6) <|
    gz_ck (gz_sh h a0 2 6) <|
    gz_b2 (fX2_become a0 (h.2.1 a1 2) (h.2.1 a1 3) (h.2.1 a1 4) h) fun _ h_2 =>
    gz_ck (gz_sh h_2 a1 2 6) <|
    gz_br (h_2.2.2.2 a1 0) fun r_6 =>
    gz_ck (gz_sh h_2 a0 2 6) <|
    gz_br (h_2.2.2.2 a0 0) fun r_8 =>
    gz_ck (gz_cpOk h_2 r_6 r_8 (0 : Int32) (0 : Int32) (8 : Int32)) <|
    gz_lt (gz_cp h_2 r_6 r_8 (0 : Int32) (0 : Int32) (8 : Int32)) fun h_10 =>
    gz_ck (gz_sh h_10 a1 2 6) <|
    gz_ck (gz_sh h_10 a0 2 6) <|
    gz_lt (uI h_10 a0 1 (h_10.2.1 a1 1)) fun h_13 =>
    gz_ck (gz_sh h_13 a1 2 6) <|
    gz_ck (gz_sh h_13 a0 2 6) <|
    gz_ck (gz_bo (h_13.2.1 a1 5)) <|
    gz_lt (uI h_13 a0 5 (h_13.2.1 a1 5)) fun h_17 =>
    some ((), h_17)
set_option maxRecDepth 100000 in
set_option maxHeartbeats 1000000 in
theorem sX2_becomeLike_0 {G : gz_G} {d l0 s0 : Nat} {Q : Unit → gz_H → Prop} (a0 : Nat) (a1 : Nat) (h : gz_H) (hf : gz_g (fX2_becomeLike_0  a0 a1 h) Q) : gz_Ok G mX2_becomeLike (d + 1, l0, s0, 0, 0) 0 [.ref a0, .ref a1] [] h (gz_qu Q) := by
  unfold fX2_becomeLike_0 at hf
  refine gz_aload_n (pc := 0) dX2_becomeLike_0 rfl rfl ?_
  refine gz_aload_n (pc := 1) dX2_becomeLike_1 rfl rfl ?_
  refine gz_gk hf (fun c_1 hf => ?_)
  refine gz_getI (pc := 2) dX2_becomeLike_2 fl_RX2_15 rfl (gz_shs c_1) ?_
  refine gz_aload_n (pc := 5) dX2_becomeLike_5 rfl rfl ?_
  refine gz_getI (pc := 6) dX2_becomeLike_6 fl_RX2_19 rfl (gz_shs c_1) ?_
  refine gz_aload_n (pc := 9) dX2_becomeLike_9 rfl rfl ?_
  refine gz_getI (pc := 10) dX2_becomeLike_10 fl_RX2_22 rfl (gz_shs c_1) ?_
  refine gz_gk hf (fun c_4 hf => ?_)
  refine gz_cVV (av := [.int (h.2.1 a1 2), .int (h.2.1 a1 3), .int (h.2.1 a1 4)]) (st := []) (pc := 13) dX2_becomeLike_13 kl_RX2_32 rfl (gz_shs c_4) rfl rfl (Nat.le_of_ble_eq_true rfl) (by show d + 0 + 0 + 1 ≤ d + 1; omega) (sX2_become (d := d + 0) (gz_gc hf)) (fun _ h_2 hf => ?_)
  refine gz_aload_n (pc := 16) dX2_becomeLike_16 rfl rfl ?_
  refine gz_gk hf (fun c_5 hf => ?_)
  refine gz_gb hf (fun r_6 er_6 hf => ?_)
  refine gz_getR (pc := 17) dX2_becomeLike_17 fl_RX2_9 rfl (gz_shs c_5) er_6 ?_
  refine gz_iconst (v := (0 : Int32)) (pc := 20) dX2_becomeLike_20 rfl ?_
  refine gz_aload_n (pc := 21) dX2_becomeLike_21 rfl rfl ?_
  refine gz_gk hf (fun c_7 hf => ?_)
  refine gz_gb hf (fun r_8 er_8 hf => ?_)
  refine gz_getR (pc := 22) dX2_becomeLike_22 fl_RX2_9 rfl (gz_shs c_7) er_8 ?_
  refine gz_iconst (v := (0 : Int32)) (pc := 25) dX2_becomeLike_25 rfl ?_
  refine gz_bipush (v := (8 : Int32)) (pc := 26) dX2_becomeLike_26 rfl ?_
  refine gz_gk hf (fun c_9 hf => ?_)
  refine gz_copy (pc := 28) dX2_becomeLike_28 kcp_RX2_36 (by show 1 ≤ d + 1; omega) (Nat.le_of_ble_eq_true rfl) c_9 ?_
  refine gz_nmH (fun h_10 eh_10 => ?_)
  have hf := gz_gl eh_10 hf
  refine gz_aload_n (pc := 31) dX2_becomeLike_31 rfl rfl ?_
  refine gz_aload_n (pc := 32) dX2_becomeLike_32 rfl rfl ?_
  refine gz_gk hf (fun c_11 hf => ?_)
  refine gz_getI (pc := 33) dX2_becomeLike_33 fl_RX2_25 rfl (gz_shs c_11) ?_
  refine gz_gk hf (fun c_12 hf => ?_)
  refine gz_putI (pc := 36) dX2_becomeLike_36 fw_X2_becomeLike_25 rfl rfl rfl (gz_shs c_12) ?_
  refine gz_nmH (fun h_13 eh_13 => ?_)
  have hf := gz_gl eh_13 hf
  refine gz_aload_n (pc := 39) dX2_becomeLike_39 rfl rfl ?_
  refine gz_aload_n (pc := 40) dX2_becomeLike_40 rfl rfl ?_
  refine gz_gk hf (fun c_14 hf => ?_)
  refine gz_getI (pc := 41) dX2_becomeLike_41 fl_RX2_28 rfl (gz_shs c_14) ?_
  refine gz_gk hf (fun c_15 hf => ?_)
  refine gz_gk hf (fun c_16 hf => ?_)
  refine gz_putI (pc := 44) dX2_becomeLike_44 fw_X2_becomeLike_28 rfl (by rcases (gz_bos c_16) with h8 | h8 <;> rw [h8] <;> rfl) (by rcases (gz_bos c_16) with h8 | h8 <;> rw [h8] <;> rfl) (gz_shs c_15) ?_
  refine gz_nmH (fun h_17 eh_17 => ?_)
  have hf := gz_gl eh_17 hf
  exact gz_uret (pc := 47) dX2_becomeLike_47 rfl hf
def fX2_becomeLike (a0 : Nat) (a1 : Nat) (h : gz_H) : Option (Unit × gz_H) := fX2_becomeLike_0 a0 a1 h
theorem sX2_becomeLike {G : gz_G} {d : Nat} {a0 : Nat} {a1 : Nat} {h : gz_H} {Q : Unit → gz_H → Prop} (hf : gz_g (fX2_becomeLike a0 a1 h) Q) : gz_Cl G mX2_becomeLike (d + 1) 0 0 [.ref a0, .ref a1] h (gz_qu Q) := gz_cl_of (lo := [.ref a0, .ref a1]) (by decide) rfl rfl (Nat.le_of_ble_eq_true rfl) (sX2_becomeLike_0 a0 a1 h hf)
theorem dX1_become_0 : decode cX1_become 0 = .ok (.aload_n 1, 1) := by decide +kernel
theorem dX1_become_1 : decode cX1_become 1 = .ok (.getfield 9, 3) := by decide +kernel
theorem dX1_become_4 : decode cX1_become 4 = .ok (.iconst 0, 1) := by decide +kernel
theorem dX1_become_5 : decode cX1_become 5 = .ok (.aload_n 0, 1) := by decide +kernel
theorem dX1_become_6 : decode cX1_become 6 = .ok (.getfield 9, 3) := by decide +kernel
theorem dX1_become_9 : decode cX1_become 9 = .ok (.iconst 0, 1) := by decide +kernel
theorem dX1_become_10 : decode cX1_become 10 = .ok (.bipush 8, 2) := by decide +kernel
theorem dX1_become_12 : decode cX1_become 12 = .ok (.invokestatic 22, 3) := by decide +kernel
theorem dX1_become_15 : decode cX1_become 15 = .ok (.aload_n 0, 1) := by decide +kernel
theorem dX1_become_16 : decode cX1_become 16 = .ok (.aload_n 1, 1) := by decide +kernel
theorem dX1_become_17 : decode cX1_become 17 = .ok (.getfield 28, 3) := by decide +kernel
theorem dX1_become_20 : decode cX1_become 20 = .ok (.putfield 28, 3) := by decide +kernel
theorem dX1_become_23 : decode cX1_become 23 = .ok (.aload_n 0, 1) := by decide +kernel
theorem dX1_become_24 : decode cX1_become 24 = .ok (.aload_n 1, 1) := by decide +kernel
theorem dX1_become_25 : decode cX1_become 25 = .ok (.getfield 32, 3) := by decide +kernel
theorem dX1_become_28 : decode cX1_become 28 = .ok (.putfield 32, 3) := by decide +kernel
theorem dX1_become_31 : decode cX1_become 31 = .ok (.iconst 0, 1) := by decide +kernel
theorem dX1_become_32 : decode cX1_become 32 = .ok (.istore_n 2, 1) := by decide +kernel
theorem dX1_become_33 : decode cX1_become 33 = .ok (.iload_n 2, 1) := by decide +kernel
theorem dX1_become_34 : decode cX1_become 34 = .ok (.aload_n 0, 1) := by decide +kernel
theorem dX1_become_35 : decode cX1_become 35 = .ok (.getfield 32, 3) := by decide +kernel
theorem dX1_become_38 : decode cX1_become 38 = .ok (.if_icmp .ge 24, 3) := by decide +kernel
theorem dX1_become_41 : decode cX1_become 41 = .ok (.aload_n 0, 1) := by decide +kernel
theorem dX1_become_42 : decode cX1_become 42 = .ok (.getfield 17, 3) := by decide +kernel
theorem dX1_become_45 : decode cX1_become 45 = .ok (.iload_n 2, 1) := by decide +kernel
theorem dX1_become_46 : decode cX1_become 46 = .ok (.aaload, 1) := by decide +kernel
theorem dX1_become_47 : decode cX1_become 47 = .ok (.aload_n 1, 1) := by decide +kernel
theorem dX1_become_48 : decode cX1_become 48 = .ok (.getfield 17, 3) := by decide +kernel
theorem dX1_become_51 : decode cX1_become 51 = .ok (.iload_n 2, 1) := by decide +kernel
theorem dX1_become_52 : decode cX1_become 52 = .ok (.aaload, 1) := by decide +kernel
theorem dX1_become_53 : decode cX1_become 53 = .ok (.invokevirtual 35, 3) := by decide +kernel
theorem dX1_become_56 : decode cX1_become 56 = .ok (.iinc 2 1, 3) := by decide +kernel
theorem dX1_become_59 : decode cX1_become 59 = .ok (.goto (-26), 3) := by decide +kernel
theorem dX1_become_62 : decode cX1_become 62 = .ok (.return_, 1) := by decide +kernel
def fX1_become_33  : Nat → Nat → Nat → Int32 → gz_H → Option (Unit × gz_H)
  | 0, _, _, _, _ => none
  | n + 1, a0, a1, x2, h =>
    gz_ck (gz_sh h a0 1 4) <|
    if (h.2.1 a0 3) ≤ x2 then (
     some ((), h)
    ) else (
     gz_br (h.2.2.2 a0 1) fun r_3 =>
     gz_ck (gz_inb h r_3 11 x2) <|
     gz_br (h.2.2.2 r_3 x2.toNatClampNeg) fun r_5 =>
     gz_ck (gz_sh h a1 1 4) <|
     gz_br (h.2.2.2 a1 1) fun r_7 =>
     gz_ck (gz_inb h r_7 11 x2) <|
     gz_br (h.2.2.2 r_7 x2.toNatClampNeg) fun r_9 =>
     gz_ck (gz_sh h r_5 2 6) <|
     gz_b2 (fX2_becomeLike r_5 r_9 h) fun _ h_10 =>
     fX1_become_33 n a0 a1 (x2 + 1) h_10
    )
set_option maxRecDepth 100000 in
set_option maxHeartbeats 1000000 in
theorem sX1_become_33 {G : gz_G} {d l0 s0 : Nat} {Q : Unit → gz_H → Prop} : ∀ (n : Nat) (a0 : Nat) (a1 : Nat) (x2 : Int32) (h : gz_H), gz_g (fX1_become_33  n a0 a1 x2 h) Q → gz_Ok G mX1_become (d + 2, l0, s0, 0, 0) 33 [.ref a0, .ref a1, .int x2] [] h (gz_qu Q) := by
  intro n
  induction n with
  | zero => intro a0 a1 x2 h hf; exact False.elim hf
  | succ n ih =>
    intro a0 a1 x2 h hf
    rw [fX1_become_33] at hf
    refine gz_iload_n (pc := 33) dX1_become_33 rfl rfl ?_
    refine gz_aload_n (pc := 34) dX1_become_34 rfl rfl ?_
    refine gz_gk hf (fun c_1 hf => ?_)
    refine gz_getI (pc := 35) dX1_become_35 fl_RX1_32 rfl (gz_shs c_1) ?_
    refine gz_icmp_ge (tgt := 62) (pc := 38) dX1_become_38 rfl (fun c_2 => ?_) (fun c_2 => ?_)
    · have hf := gz_gT hf c_2
      exact gz_uret (pc := 62) dX1_become_62 rfl hf
    · have hf := gz_gF hf c_2
      refine gz_aload_n (pc := 41) dX1_become_41 rfl rfl ?_
      refine gz_gb hf (fun r_3 er_3 hf => ?_)
      refine gz_getR (pc := 42) dX1_become_42 fl_RX1_17 rfl (gz_shs c_1) er_3 ?_
      refine gz_iload_n (pc := 45) dX1_become_45 rfl rfl ?_
      refine gz_gk hf (fun c_4 hf => ?_)
      refine gz_gb hf (fun r_5 er_5 hf => ?_)
      refine gz_aald (Or.inl rfl) (pc := 46) dX1_become_46 c_4 er_5 ?_
      refine gz_aload_n (pc := 47) dX1_become_47 rfl rfl ?_
      refine gz_gk hf (fun c_6 hf => ?_)
      refine gz_gb hf (fun r_7 er_7 hf => ?_)
      refine gz_getR (pc := 48) dX1_become_48 fl_RX1_17 rfl (gz_shs c_6) er_7 ?_
      refine gz_iload_n (pc := 51) dX1_become_51 rfl rfl ?_
      refine gz_gk hf (fun c_8 hf => ?_)
      refine gz_gb hf (fun r_9 er_9 hf => ?_)
      refine gz_aald (Or.inl rfl) (pc := 52) dX1_become_52 c_8 er_9 ?_
      refine gz_gk hf (fun c_12 hf => ?_)
      refine gz_cVV (av := [.ref r_9]) (st := []) (pc := 53) dX1_become_53 kl_RX1_35 rfl (gz_shs c_12) rfl rfl (Nat.le_of_ble_eq_true rfl) (by show d + 0 + 1 + 1 ≤ d + 2; omega) (sX2_becomeLike (d := d + 0) (gz_gc hf)) (fun _ h_10 hf => ?_)
      refine gz_iinc (v := x2 + 1) (lv := [.ref a0, .ref a1, .int (x2 + 1)]) (pc := 56) dX1_become_56 rfl rfl (by decide) rfl ?_
      refine gz_goto (tgt := 33) (pc := 59) dX1_become_59 rfl ?_
      exact ih a0 a1 (x2 + 1) h_10 hf
def fX1_become_0  (a0 : Nat) (a1 : Nat) (h : gz_H) : Option (Unit × gz_H) :=
    gz_ck (gz_sh h a1 1 4) <|
    gz_br (h.2.2.2 a1 0) fun r_2 =>
    gz_ck (gz_sh h a0 1 4) <|
    gz_br (h.2.2.2 a0 0) fun r_4 =>
    gz_ck (gz_cpOk h r_2 r_4 (0 : Int32) (0 : Int32) (8 : Int32)) <|
    gz_lt (gz_cp h r_2 r_4 (0 : Int32) (0 : Int32) (8 : Int32)) fun h_6 =>
    gz_ck (gz_sh h_6 a1 1 4) <|
    gz_ck (gz_sh h_6 a0 1 4) <|
    gz_lt (uI h_6 a0 2 (h_6.2.1 a1 2)) fun h_9 =>
    gz_ck (gz_sh h_9 a1 1 4) <|
    gz_ck (gz_sh h_9 a0 1 4) <|
    gz_lt (uI h_9 a0 3 (h_9.2.1 a1 3)) fun h_12 =>
    fX1_become_33 gz_fu a0 a1 (0 : Int32) h_12
set_option maxRecDepth 100000 in
set_option maxHeartbeats 1000000 in
theorem sX1_become_0 {G : gz_G} {d l0 s0 : Nat} {Q : Unit → gz_H → Prop} (a0 : Nat) (a1 : Nat) (h : gz_H) (hf : gz_g (fX1_become_0  a0 a1 h) Q) : gz_Ok G mX1_become (d + 2, l0, s0, 0, 0) 0 [.ref a0, .ref a1, .retAddr 0] [] h (gz_qu Q) := by
  unfold fX1_become_0 at hf
  refine gz_aload_n (pc := 0) dX1_become_0 rfl rfl ?_
  refine gz_gk hf (fun c_1 hf => ?_)
  refine gz_gb hf (fun r_2 er_2 hf => ?_)
  refine gz_getR (pc := 1) dX1_become_1 fl_RX1_9 rfl (gz_shs c_1) er_2 ?_
  refine gz_iconst (v := (0 : Int32)) (pc := 4) dX1_become_4 rfl ?_
  refine gz_aload_n (pc := 5) dX1_become_5 rfl rfl ?_
  refine gz_gk hf (fun c_3 hf => ?_)
  refine gz_gb hf (fun r_4 er_4 hf => ?_)
  refine gz_getR (pc := 6) dX1_become_6 fl_RX1_9 rfl (gz_shs c_3) er_4 ?_
  refine gz_iconst (v := (0 : Int32)) (pc := 9) dX1_become_9 rfl ?_
  refine gz_bipush (v := (8 : Int32)) (pc := 10) dX1_become_10 rfl ?_
  refine gz_gk hf (fun c_5 hf => ?_)
  refine gz_copy (pc := 12) dX1_become_12 kcp_RX1_22 (by show 1 ≤ d + 2; omega) (Nat.le_of_ble_eq_true rfl) c_5 ?_
  refine gz_nmH (fun h_6 eh_6 => ?_)
  have hf := gz_gl eh_6 hf
  refine gz_aload_n (pc := 15) dX1_become_15 rfl rfl ?_
  refine gz_aload_n (pc := 16) dX1_become_16 rfl rfl ?_
  refine gz_gk hf (fun c_7 hf => ?_)
  refine gz_getI (pc := 17) dX1_become_17 fl_RX1_28 rfl (gz_shs c_7) ?_
  refine gz_gk hf (fun c_8 hf => ?_)
  refine gz_putI (pc := 20) dX1_become_20 fw_X1_become_28 rfl rfl rfl (gz_shs c_8) ?_
  refine gz_nmH (fun h_9 eh_9 => ?_)
  have hf := gz_gl eh_9 hf
  refine gz_aload_n (pc := 23) dX1_become_23 rfl rfl ?_
  refine gz_aload_n (pc := 24) dX1_become_24 rfl rfl ?_
  refine gz_gk hf (fun c_10 hf => ?_)
  refine gz_getI (pc := 25) dX1_become_25 fl_RX1_32 rfl (gz_shs c_10) ?_
  refine gz_gk hf (fun c_11 hf => ?_)
  refine gz_putI (pc := 28) dX1_become_28 fw_X1_become_32 rfl rfl rfl (gz_shs c_11) ?_
  refine gz_nmH (fun h_12 eh_12 => ?_)
  have hf := gz_gl eh_12 hf
  refine gz_iconst (v := (0 : Int32)) (pc := 31) dX1_become_31 rfl ?_
  refine gz_istore_n (lv := [.ref a0, .ref a1, .int (0 : Int32)]) (pc := 32) dX1_become_32 rfl (by decide) rfl ?_
  exact sX1_become_33 gz_fu a0 a1 (0 : Int32) h_12 hf
def fX1_become (a0 : Nat) (a1 : Nat) (h : gz_H) : Option (Unit × gz_H) := fX1_become_0 a0 a1 h
theorem sX1_become {G : gz_G} {d : Nat} {a0 : Nat} {a1 : Nat} {h : gz_H} {Q : Unit → gz_H → Prop} (hf : gz_g (fX1_become a0 a1 h) Q) : gz_Cl G mX1_become (d + 2) 0 0 [.ref a0, .ref a1] h (gz_qu Q) := gz_cl_of (lo := [.ref a0, .ref a1, .retAddr 0]) (by decide) rfl rfl (Nat.le_of_ble_eq_true rfl) (sX1_become_0 a0 a1 h hf)
theorem dX1_hasGeese_0 : decode cX1_hasGeese 0 = .ok (.aload_n 0, 1) := by decide +kernel
theorem dX1_hasGeese_1 : decode cX1_hasGeese 1 = .ok (.getfield 32, 3) := by decide +kernel
theorem dX1_hasGeese_4 : decode cX1_hasGeese 4 = .ok (.ifCond .le 14, 3) := by decide +kernel
theorem dX1_hasGeese_7 : decode cX1_hasGeese 7 = .ok (.aload_n 0, 1) := by decide +kernel
theorem dX1_hasGeese_8 : decode cX1_hasGeese 8 = .ok (.getfield 28, 3) := by decide +kernel
theorem dX1_hasGeese_11 : decode cX1_hasGeese 11 = .ok (.ifCond .le 7, 3) := by decide +kernel
theorem dX1_hasGeese_14 : decode cX1_hasGeese 14 = .ok (.iconst 1, 1) := by decide +kernel
theorem dX1_hasGeese_15 : decode cX1_hasGeese 15 = .ok (.goto 4, 3) := by decide +kernel
theorem dX1_hasGeese_18 : decode cX1_hasGeese 18 = .ok (.iconst 0, 1) := by decide +kernel
theorem dX1_hasGeese_19 : decode cX1_hasGeese 19 = .ok (.ireturn, 1) := by decide +kernel
def fX1_hasGeese_0  (a0 : Nat) (h : gz_H) : Option (Int32 × gz_H) :=
    gz_ck (gz_sh h a0 1 4) <|
    if (h.2.1 a0 3) ≤ 0 then (
     some ((0 : Int32), h)
    ) else (
     if (h.2.1 a0 2) ≤ 0 then (
      some ((0 : Int32), h)
     ) else (
      some ((1 : Int32), h)
     )
    )
set_option maxRecDepth 100000 in
set_option maxHeartbeats 1000000 in
theorem sX1_hasGeese_0 {G : gz_G} {d l0 s0 : Nat} {Q : Int32 → gz_H → Prop} (a0 : Nat) (h : gz_H) (hf : gz_g (fX1_hasGeese_0  a0 h) Q) : gz_Ok G mX1_hasGeese (d + 0, l0, s0, 0, 0) 0 [.ref a0] [] h (gz_qi Q) := by
  unfold fX1_hasGeese_0 at hf
  refine gz_aload_n (pc := 0) dX1_hasGeese_0 rfl rfl ?_
  refine gz_gk hf (fun c_1 hf => ?_)
  refine gz_getI (pc := 1) dX1_hasGeese_1 fl_RX1_32 rfl (gz_shs c_1) ?_
  refine gz_if_le (tgt := 18) (pc := 4) dX1_hasGeese_4 rfl (fun c_2 => ?_) (fun c_2 => ?_)
  · have hf := gz_gT hf c_2
    refine gz_iconst (v := (0 : Int32)) (pc := 18) dX1_hasGeese_18 rfl ?_
    exact gz_irt (pc := 19) dX1_hasGeese_19 rfl rfl hf
  · have hf := gz_gF hf c_2
    refine gz_aload_n (pc := 7) dX1_hasGeese_7 rfl rfl ?_
    refine gz_getI (pc := 8) dX1_hasGeese_8 fl_RX1_28 rfl (gz_shs c_1) ?_
    refine gz_if_le (tgt := 18) (pc := 11) dX1_hasGeese_11 rfl (fun c_3 => ?_) (fun c_3 => ?_)
    · have hf := gz_gT hf c_3
      refine gz_iconst (v := (0 : Int32)) (pc := 18) dX1_hasGeese_18 rfl ?_
      exact gz_irt (pc := 19) dX1_hasGeese_19 rfl rfl hf
    · have hf := gz_gF hf c_3
      refine gz_iconst (v := (1 : Int32)) (pc := 14) dX1_hasGeese_14 rfl ?_
      refine gz_goto (tgt := 19) (pc := 15) dX1_hasGeese_15 rfl ?_
      exact gz_irt (pc := 19) dX1_hasGeese_19 rfl rfl hf
def fX1_hasGeese (a0 : Nat) (h : gz_H) : Option (Int32 × gz_H) := fX1_hasGeese_0 a0 h
theorem sX1_hasGeese {G : gz_G} {d : Nat} {a0 : Nat} {h : gz_H} {Q : Int32 → gz_H → Prop} (hf : gz_g (fX1_hasGeese a0 h) Q) : gz_Cl G mX1_hasGeese (d + 0) 0 0 [.ref a0] h (gz_qi Q) := gz_cl_of (lo := [.ref a0]) (by decide) rfl rfl (Nat.le_of_ble_eq_true rfl) (sX1_hasGeese_0 a0 h hf)
theorem dX1_hasGoose_0 : decode cX1_hasGoose 0 = .ok (.iload_n 1, 1) := by decide +kernel
theorem dX1_hasGoose_1 : decode cX1_hasGoose 1 = .ok (.ifCond .lt 15, 3) := by decide +kernel
theorem dX1_hasGoose_4 : decode cX1_hasGoose 4 = .ok (.iload_n 1, 1) := by decide +kernel
theorem dX1_hasGoose_5 : decode cX1_hasGoose 5 = .ok (.aload_n 0, 1) := by decide +kernel
theorem dX1_hasGoose_6 : decode cX1_hasGoose 6 = .ok (.getfield 32, 3) := by decide +kernel
theorem dX1_hasGoose_9 : decode cX1_hasGoose 9 = .ok (.if_icmp .ge 7, 3) := by decide +kernel
theorem dX1_hasGoose_12 : decode cX1_hasGoose 12 = .ok (.iconst 1, 1) := by decide +kernel
theorem dX1_hasGoose_13 : decode cX1_hasGoose 13 = .ok (.goto 4, 3) := by decide +kernel
theorem dX1_hasGoose_16 : decode cX1_hasGoose 16 = .ok (.iconst 0, 1) := by decide +kernel
theorem dX1_hasGoose_17 : decode cX1_hasGoose 17 = .ok (.ireturn, 1) := by decide +kernel
def fX1_hasGoose_0  (a0 : Nat) (x1 : Int32) (h : gz_H) : Option (Int32 × gz_H) :=
    if x1 < 0 then (
     some ((0 : Int32), h)
    ) else (
     gz_ck (gz_sh h a0 1 4) <|
     if (h.2.1 a0 3) ≤ x1 then (
      some ((0 : Int32), h)
     ) else (
      some ((1 : Int32), h)
     )
    )
set_option maxRecDepth 100000 in
set_option maxHeartbeats 1000000 in
theorem sX1_hasGoose_0 {G : gz_G} {d l0 s0 : Nat} {Q : Int32 → gz_H → Prop} (a0 : Nat) (x1 : Int32) (h : gz_H) (hf : gz_g (fX1_hasGoose_0  a0 x1 h) Q) : gz_Ok G mX1_hasGoose (d + 0, l0, s0, 0, 0) 0 [.ref a0, .int x1] [] h (gz_qi Q) := by
  unfold fX1_hasGoose_0 at hf
  refine gz_iload_n (pc := 0) dX1_hasGoose_0 rfl rfl ?_
  refine gz_if_lt (tgt := 16) (pc := 1) dX1_hasGoose_1 rfl (fun c_1 => ?_) (fun c_1 => ?_)
  · have hf := gz_gT hf c_1
    refine gz_iconst (v := (0 : Int32)) (pc := 16) dX1_hasGoose_16 rfl ?_
    exact gz_irt (pc := 17) dX1_hasGoose_17 rfl rfl hf
  · have hf := gz_gF hf c_1
    refine gz_iload_n (pc := 4) dX1_hasGoose_4 rfl rfl ?_
    refine gz_aload_n (pc := 5) dX1_hasGoose_5 rfl rfl ?_
    refine gz_gk hf (fun c_2 hf => ?_)
    refine gz_getI (pc := 6) dX1_hasGoose_6 fl_RX1_32 rfl (gz_shs c_2) ?_
    refine gz_icmp_ge (tgt := 16) (pc := 9) dX1_hasGoose_9 rfl (fun c_3 => ?_) (fun c_3 => ?_)
    · have hf := gz_gT hf c_3
      refine gz_iconst (v := (0 : Int32)) (pc := 16) dX1_hasGoose_16 rfl ?_
      exact gz_irt (pc := 17) dX1_hasGoose_17 rfl rfl hf
    · have hf := gz_gF hf c_3
      refine gz_iconst (v := (1 : Int32)) (pc := 12) dX1_hasGoose_12 rfl ?_
      refine gz_goto (tgt := 17) (pc := 13) dX1_hasGoose_13 rfl ?_
      exact gz_irt (pc := 17) dX1_hasGoose_17 rfl rfl hf
def fX1_hasGoose (a0 : Nat) (x1 : Int32) (h : gz_H) : Option (Int32 × gz_H) := fX1_hasGoose_0 a0 x1 h
theorem sX1_hasGoose {G : gz_G} {d : Nat} {a0 : Nat} {x1 : Int32} {h : gz_H} {Q : Int32 → gz_H → Prop} (hf : gz_g (fX1_hasGoose a0 x1 h) Q) : gz_Cl G mX1_hasGoose (d + 0) 0 0 [.ref a0, .int x1] h (gz_qi Q) := gz_cl_of (lo := [.ref a0, .int x1]) (by decide) rfl rfl (Nat.le_of_ble_eq_true rfl) (sX1_hasGoose_0 a0 x1 h hf)
theorem dX1_hasFact_0 : decode cX1_hasFact 0 = .ok (.iload_n 1, 1) := by decide +kernel
theorem dX1_hasFact_1 : decode cX1_hasFact 1 = .ok (.ifCond .lt 15, 3) := by decide +kernel
theorem dX1_hasFact_4 : decode cX1_hasFact 4 = .ok (.iload_n 1, 1) := by decide +kernel
theorem dX1_hasFact_5 : decode cX1_hasFact 5 = .ok (.aload_n 0, 1) := by decide +kernel
theorem dX1_hasFact_6 : decode cX1_hasFact 6 = .ok (.getfield 28, 3) := by decide +kernel
theorem dX1_hasFact_9 : decode cX1_hasFact 9 = .ok (.if_icmp .ge 7, 3) := by decide +kernel
theorem dX1_hasFact_12 : decode cX1_hasFact 12 = .ok (.iconst 1, 1) := by decide +kernel
theorem dX1_hasFact_13 : decode cX1_hasFact 13 = .ok (.goto 4, 3) := by decide +kernel
theorem dX1_hasFact_16 : decode cX1_hasFact 16 = .ok (.iconst 0, 1) := by decide +kernel
theorem dX1_hasFact_17 : decode cX1_hasFact 17 = .ok (.ireturn, 1) := by decide +kernel
def fX1_hasFact_0  (a0 : Nat) (x1 : Int32) (h : gz_H) : Option (Int32 × gz_H) :=
    if x1 < 0 then (
     some ((0 : Int32), h)
    ) else (
     gz_ck (gz_sh h a0 1 4) <|
     if (h.2.1 a0 2) ≤ x1 then (
      some ((0 : Int32), h)
     ) else (
      some ((1 : Int32), h)
     )
    )
set_option maxRecDepth 100000 in
set_option maxHeartbeats 1000000 in
theorem sX1_hasFact_0 {G : gz_G} {d l0 s0 : Nat} {Q : Int32 → gz_H → Prop} (a0 : Nat) (x1 : Int32) (h : gz_H) (hf : gz_g (fX1_hasFact_0  a0 x1 h) Q) : gz_Ok G mX1_hasFact (d + 0, l0, s0, 0, 0) 0 [.ref a0, .int x1] [] h (gz_qi Q) := by
  unfold fX1_hasFact_0 at hf
  refine gz_iload_n (pc := 0) dX1_hasFact_0 rfl rfl ?_
  refine gz_if_lt (tgt := 16) (pc := 1) dX1_hasFact_1 rfl (fun c_1 => ?_) (fun c_1 => ?_)
  · have hf := gz_gT hf c_1
    refine gz_iconst (v := (0 : Int32)) (pc := 16) dX1_hasFact_16 rfl ?_
    exact gz_irt (pc := 17) dX1_hasFact_17 rfl rfl hf
  · have hf := gz_gF hf c_1
    refine gz_iload_n (pc := 4) dX1_hasFact_4 rfl rfl ?_
    refine gz_aload_n (pc := 5) dX1_hasFact_5 rfl rfl ?_
    refine gz_gk hf (fun c_2 hf => ?_)
    refine gz_getI (pc := 6) dX1_hasFact_6 fl_RX1_28 rfl (gz_shs c_2) ?_
    refine gz_icmp_ge (tgt := 16) (pc := 9) dX1_hasFact_9 rfl (fun c_3 => ?_) (fun c_3 => ?_)
    · have hf := gz_gT hf c_3
      refine gz_iconst (v := (0 : Int32)) (pc := 16) dX1_hasFact_16 rfl ?_
      exact gz_irt (pc := 17) dX1_hasFact_17 rfl rfl hf
    · have hf := gz_gF hf c_3
      refine gz_iconst (v := (1 : Int32)) (pc := 12) dX1_hasFact_12 rfl ?_
      refine gz_goto (tgt := 17) (pc := 13) dX1_hasFact_13 rfl ?_
      exact gz_irt (pc := 17) dX1_hasFact_17 rfl rfl hf
def fX1_hasFact (a0 : Nat) (x1 : Int32) (h : gz_H) : Option (Int32 × gz_H) := fX1_hasFact_0 a0 x1 h
theorem sX1_hasFact {G : gz_G} {d : Nat} {a0 : Nat} {x1 : Int32} {h : gz_H} {Q : Int32 → gz_H → Prop} (hf : gz_g (fX1_hasFact a0 x1 h) Q) : gz_Cl G mX1_hasFact (d + 0) 0 0 [.ref a0, .int x1] h (gz_qi Q) := gz_cl_of (lo := [.ref a0, .int x1]) (by decide) rfl rfl (Nat.le_of_ble_eq_true rfl) (sX1_hasFact_0 a0 x1 h hf)
theorem dX1_hasFactSet_0 : decode cX1_hasFactSet 0 = .ok (.iload_n 1, 1) := by decide +kernel
theorem dX1_hasFactSet_1 : decode cX1_hasFactSet 1 = .ok (.ifCond .lt 17, 3) := by decide +kernel
theorem dX1_hasFactSet_4 : decode cX1_hasFactSet 4 = .ok (.iload_n 1, 1) := by decide +kernel
theorem dX1_hasFactSet_5 : decode cX1_hasFactSet 5 = .ok (.iconst 1, 1) := by decide +kernel
theorem dX1_hasFactSet_6 : decode cX1_hasFactSet 6 = .ok (.aload_n 0, 1) := by decide +kernel
theorem dX1_hasFactSet_7 : decode cX1_hasFactSet 7 = .ok (.getfield 28, 3) := by decide +kernel
theorem dX1_hasFactSet_10 : decode cX1_hasFactSet 10 = .ok (.ishl, 1) := by decide +kernel
theorem dX1_hasFactSet_11 : decode cX1_hasFactSet 11 = .ok (.if_icmp .ge 7, 3) := by decide +kernel
theorem dX1_hasFactSet_14 : decode cX1_hasFactSet 14 = .ok (.iconst 1, 1) := by decide +kernel
theorem dX1_hasFactSet_15 : decode cX1_hasFactSet 15 = .ok (.goto 4, 3) := by decide +kernel
theorem dX1_hasFactSet_18 : decode cX1_hasFactSet 18 = .ok (.iconst 0, 1) := by decide +kernel
theorem dX1_hasFactSet_19 : decode cX1_hasFactSet 19 = .ok (.ireturn, 1) := by decide +kernel
def fX1_hasFactSet_0  (a0 : Nat) (x1 : Int32) (h : gz_H) : Option (Int32 × gz_H) :=
    if x1 < 0 then (
     some ((0 : Int32), h)
    ) else (
     gz_ck (gz_sh h a0 1 4) <|
     if ((1 : Int32) <<< ((h.2.1 a0 2) &&& 31)) ≤ x1 then (
      some ((0 : Int32), h)
     ) else (
      some ((1 : Int32), h)
     )
    )
set_option maxRecDepth 100000 in
set_option maxHeartbeats 1000000 in
theorem sX1_hasFactSet_0 {G : gz_G} {d l0 s0 : Nat} {Q : Int32 → gz_H → Prop} (a0 : Nat) (x1 : Int32) (h : gz_H) (hf : gz_g (fX1_hasFactSet_0  a0 x1 h) Q) : gz_Ok G mX1_hasFactSet (d + 0, l0, s0, 0, 0) 0 [.ref a0, .int x1] [] h (gz_qi Q) := by
  unfold fX1_hasFactSet_0 at hf
  refine gz_iload_n (pc := 0) dX1_hasFactSet_0 rfl rfl ?_
  refine gz_if_lt (tgt := 18) (pc := 1) dX1_hasFactSet_1 rfl (fun c_1 => ?_) (fun c_1 => ?_)
  · have hf := gz_gT hf c_1
    refine gz_iconst (v := (0 : Int32)) (pc := 18) dX1_hasFactSet_18 rfl ?_
    exact gz_irt (pc := 19) dX1_hasFactSet_19 rfl rfl hf
  · have hf := gz_gF hf c_1
    refine gz_iload_n (pc := 4) dX1_hasFactSet_4 rfl rfl ?_
    refine gz_iconst (v := (1 : Int32)) (pc := 5) dX1_hasFactSet_5 rfl ?_
    refine gz_aload_n (pc := 6) dX1_hasFactSet_6 rfl rfl ?_
    refine gz_gk hf (fun c_2 hf => ?_)
    refine gz_getI (pc := 7) dX1_hasFactSet_7 fl_RX1_28 rfl (gz_shs c_2) ?_
    refine gz_ishl (pc := 10) dX1_hasFactSet_10 ?_
    refine gz_icmp_ge (tgt := 18) (pc := 11) dX1_hasFactSet_11 rfl (fun c_3 => ?_) (fun c_3 => ?_)
    · have hf := gz_gT hf c_3
      refine gz_iconst (v := (0 : Int32)) (pc := 18) dX1_hasFactSet_18 rfl ?_
      exact gz_irt (pc := 19) dX1_hasFactSet_19 rfl rfl hf
    · have hf := gz_gF hf c_3
      refine gz_iconst (v := (1 : Int32)) (pc := 14) dX1_hasFactSet_14 rfl ?_
      refine gz_goto (tgt := 19) (pc := 15) dX1_hasFactSet_15 rfl ?_
      exact gz_irt (pc := 19) dX1_hasFactSet_19 rfl rfl hf
def fX1_hasFactSet (a0 : Nat) (x1 : Int32) (h : gz_H) : Option (Int32 × gz_H) := fX1_hasFactSet_0 a0 x1 h
theorem sX1_hasFactSet {G : gz_G} {d : Nat} {a0 : Nat} {x1 : Int32} {h : gz_H} {Q : Int32 → gz_H → Prop} (hf : gz_g (fX1_hasFactSet a0 x1 h) Q) : gz_Cl G mX1_hasFactSet (d + 0) 0 0 [.ref a0, .int x1] h (gz_qi Q) := gz_cl_of (lo := [.ref a0, .int x1]) (by decide) rfl rfl (Nat.le_of_ble_eq_true rfl) (sX1_hasFactSet_0 a0 x1 h hf)
theorem dX1_hasGooseSet_0 : decode cX1_hasGooseSet 0 = .ok (.iload_n 1, 1) := by decide +kernel
theorem dX1_hasGooseSet_1 : decode cX1_hasGooseSet 1 = .ok (.ifCond .lt 17, 3) := by decide +kernel
theorem dX1_hasGooseSet_4 : decode cX1_hasGooseSet 4 = .ok (.iload_n 1, 1) := by decide +kernel
theorem dX1_hasGooseSet_5 : decode cX1_hasGooseSet 5 = .ok (.iconst 1, 1) := by decide +kernel
theorem dX1_hasGooseSet_6 : decode cX1_hasGooseSet 6 = .ok (.aload_n 0, 1) := by decide +kernel
theorem dX1_hasGooseSet_7 : decode cX1_hasGooseSet 7 = .ok (.getfield 32, 3) := by decide +kernel
theorem dX1_hasGooseSet_10 : decode cX1_hasGooseSet 10 = .ok (.ishl, 1) := by decide +kernel
theorem dX1_hasGooseSet_11 : decode cX1_hasGooseSet 11 = .ok (.if_icmp .ge 7, 3) := by decide +kernel
theorem dX1_hasGooseSet_14 : decode cX1_hasGooseSet 14 = .ok (.iconst 1, 1) := by decide +kernel
theorem dX1_hasGooseSet_15 : decode cX1_hasGooseSet 15 = .ok (.goto 4, 3) := by decide +kernel
theorem dX1_hasGooseSet_18 : decode cX1_hasGooseSet 18 = .ok (.iconst 0, 1) := by decide +kernel
theorem dX1_hasGooseSet_19 : decode cX1_hasGooseSet 19 = .ok (.ireturn, 1) := by decide +kernel
def fX1_hasGooseSet_0  (a0 : Nat) (x1 : Int32) (h : gz_H) : Option (Int32 × gz_H) :=
    if x1 < 0 then (
     some ((0 : Int32), h)
    ) else (
     gz_ck (gz_sh h a0 1 4) <|
     if ((1 : Int32) <<< ((h.2.1 a0 3) &&& 31)) ≤ x1 then (
      some ((0 : Int32), h)
     ) else (
      some ((1 : Int32), h)
     )
    )
set_option maxRecDepth 100000 in
set_option maxHeartbeats 1000000 in
theorem sX1_hasGooseSet_0 {G : gz_G} {d l0 s0 : Nat} {Q : Int32 → gz_H → Prop} (a0 : Nat) (x1 : Int32) (h : gz_H) (hf : gz_g (fX1_hasGooseSet_0  a0 x1 h) Q) : gz_Ok G mX1_hasGooseSet (d + 0, l0, s0, 0, 0) 0 [.ref a0, .int x1] [] h (gz_qi Q) := by
  unfold fX1_hasGooseSet_0 at hf
  refine gz_iload_n (pc := 0) dX1_hasGooseSet_0 rfl rfl ?_
  refine gz_if_lt (tgt := 18) (pc := 1) dX1_hasGooseSet_1 rfl (fun c_1 => ?_) (fun c_1 => ?_)
  · have hf := gz_gT hf c_1
    refine gz_iconst (v := (0 : Int32)) (pc := 18) dX1_hasGooseSet_18 rfl ?_
    exact gz_irt (pc := 19) dX1_hasGooseSet_19 rfl rfl hf
  · have hf := gz_gF hf c_1
    refine gz_iload_n (pc := 4) dX1_hasGooseSet_4 rfl rfl ?_
    refine gz_iconst (v := (1 : Int32)) (pc := 5) dX1_hasGooseSet_5 rfl ?_
    refine gz_aload_n (pc := 6) dX1_hasGooseSet_6 rfl rfl ?_
    refine gz_gk hf (fun c_2 hf => ?_)
    refine gz_getI (pc := 7) dX1_hasGooseSet_7 fl_RX1_32 rfl (gz_shs c_2) ?_
    refine gz_ishl (pc := 10) dX1_hasGooseSet_10 ?_
    refine gz_icmp_ge (tgt := 18) (pc := 11) dX1_hasGooseSet_11 rfl (fun c_3 => ?_) (fun c_3 => ?_)
    · have hf := gz_gT hf c_3
      refine gz_iconst (v := (0 : Int32)) (pc := 18) dX1_hasGooseSet_18 rfl ?_
      exact gz_irt (pc := 19) dX1_hasGooseSet_19 rfl rfl hf
    · have hf := gz_gF hf c_3
      refine gz_iconst (v := (1 : Int32)) (pc := 14) dX1_hasGooseSet_14 rfl ?_
      refine gz_goto (tgt := 19) (pc := 15) dX1_hasGooseSet_15 rfl ?_
      exact gz_irt (pc := 19) dX1_hasGooseSet_19 rfl rfl hf
def fX1_hasGooseSet (a0 : Nat) (x1 : Int32) (h : gz_H) : Option (Int32 × gz_H) := fX1_hasGooseSet_0 a0 x1 h
theorem sX1_hasGooseSet {G : gz_G} {d : Nat} {a0 : Nat} {x1 : Int32} {h : gz_H} {Q : Int32 → gz_H → Prop} (hf : gz_g (fX1_hasGooseSet a0 x1 h) Q) : gz_Cl G mX1_hasGooseSet (d + 0) 0 0 [.ref a0, .int x1] h (gz_qi Q) := gz_cl_of (lo := [.ref a0, .int x1]) (by decide) rfl rfl (Nat.le_of_ble_eq_true rfl) (sX1_hasGooseSet_0 a0 x1 h hf)
theorem dX1_aliveSet_0 : decode cX1_aliveSet 0 = .ok (.iconst 0, 1) := by decide +kernel
theorem dX1_aliveSet_1 : decode cX1_aliveSet 1 = .ok (.istore_n 1, 1) := by decide +kernel
theorem dX1_aliveSet_2 : decode cX1_aliveSet 2 = .ok (.iconst 0, 1) := by decide +kernel
theorem dX1_aliveSet_3 : decode cX1_aliveSet 3 = .ok (.istore_n 2, 1) := by decide +kernel
theorem dX1_aliveSet_4 : decode cX1_aliveSet 4 = .ok (.iload_n 2, 1) := by decide +kernel
theorem dX1_aliveSet_5 : decode cX1_aliveSet 5 = .ok (.aload_n 0, 1) := by decide +kernel
theorem dX1_aliveSet_6 : decode cX1_aliveSet 6 = .ok (.getfield 32, 3) := by decide +kernel
theorem dX1_aliveSet_9 : decode cX1_aliveSet 9 = .ok (.if_icmp .ge 27, 3) := by decide +kernel
theorem dX1_aliveSet_12 : decode cX1_aliveSet 12 = .ok (.aload_n 0, 1) := by decide +kernel
theorem dX1_aliveSet_13 : decode cX1_aliveSet 13 = .ok (.getfield 17, 3) := by decide +kernel
theorem dX1_aliveSet_16 : decode cX1_aliveSet 16 = .ok (.iload_n 2, 1) := by decide +kernel
theorem dX1_aliveSet_17 : decode cX1_aliveSet 17 = .ok (.aaload, 1) := by decide +kernel
theorem dX1_aliveSet_18 : decode cX1_aliveSet 18 = .ok (.getfield 39, 3) := by decide +kernel
theorem dX1_aliveSet_21 : decode cX1_aliveSet 21 = .ok (.ifCond .ne 9, 3) := by decide +kernel
theorem dX1_aliveSet_24 : decode cX1_aliveSet 24 = .ok (.iload_n 1, 1) := by decide +kernel
theorem dX1_aliveSet_25 : decode cX1_aliveSet 25 = .ok (.iconst 1, 1) := by decide +kernel
theorem dX1_aliveSet_26 : decode cX1_aliveSet 26 = .ok (.iload_n 2, 1) := by decide +kernel
theorem dX1_aliveSet_27 : decode cX1_aliveSet 27 = .ok (.ishl, 1) := by decide +kernel
theorem dX1_aliveSet_28 : decode cX1_aliveSet 28 = .ok (.ior, 1) := by decide +kernel
theorem dX1_aliveSet_29 : decode cX1_aliveSet 29 = .ok (.istore_n 1, 1) := by decide +kernel
theorem dX1_aliveSet_30 : decode cX1_aliveSet 30 = .ok (.iinc 2 1, 3) := by decide +kernel
theorem dX1_aliveSet_33 : decode cX1_aliveSet 33 = .ok (.goto (-29), 3) := by decide +kernel
theorem dX1_aliveSet_36 : decode cX1_aliveSet 36 = .ok (.iload_n 1, 1) := by decide +kernel
theorem dX1_aliveSet_37 : decode cX1_aliveSet 37 = .ok (.ireturn, 1) := by decide +kernel
def fX1_aliveSet_30 (k4 : Nat → Int32 → Int32 → gz_H → Option (Int32 × gz_H)) (a0 : Nat) (x1 : Int32) (x2 : Int32) (h : gz_H) : Option (Int32 × gz_H) :=
    k4 a0 x1 (x2 + 1) h
set_option maxRecDepth 100000 in
set_option maxHeartbeats 1000000 in
theorem sX1_aliveSet_30 {G : gz_G} {d l0 s0 : Nat} {Q : Int32 → gz_H → Prop} {k4 : Nat → Int32 → Int32 → gz_H → Option (Int32 × gz_H)} (hk4 : ∀ (a0 : Nat) (x1 : Int32) (x2 : Int32) (h : gz_H), gz_g (k4 a0 x1 x2 h) Q → gz_Ok G mX1_aliveSet (d + 0, l0, s0, 0, 0) 4 [.ref a0, .int x1, .int x2] [] h (gz_qi Q)) (a0 : Nat) (x1 : Int32) (x2 : Int32) (h : gz_H) (hf : gz_g (fX1_aliveSet_30 k4 a0 x1 x2 h) Q) : gz_Ok G mX1_aliveSet (d + 0, l0, s0, 0, 0) 30 [.ref a0, .int x1, .int x2] [] h (gz_qi Q) := by
  unfold fX1_aliveSet_30 at hf
  refine gz_iinc (v := x2 + 1) (lv := [.ref a0, .int x1, .int (x2 + 1)]) (pc := 30) dX1_aliveSet_30 rfl rfl (by decide) rfl ?_
  refine gz_goto (tgt := 4) (pc := 33) dX1_aliveSet_33 rfl ?_
  exact hk4 a0 x1 (x2 + 1) h hf
def fX1_aliveSet_4  : Nat → Nat → Int32 → Int32 → gz_H → Option (Int32 × gz_H)
  | 0, _, _, _, _ => none
  | n + 1, a0, x1, x2, h =>
    gz_ck (gz_sh h a0 1 4) <|
    if (h.2.1 a0 3) ≤ x2 then (
     some (x1, h)
    ) else (
     gz_br (h.2.2.2 a0 1) fun r_3 =>
     gz_ck (gz_inb h r_3 11 x2) <|
     gz_br (h.2.2.2 r_3 x2.toNatClampNeg) fun r_5 =>
     gz_ck (gz_sh h r_5 2 6) <|
     if (h.2.1 r_5 5) = 0 then (
      fX1_aliveSet_30 (fun z0 z1 z2 zh => fX1_aliveSet_4 n z0 z1 z2 zh) a0 (x1 ||| ((1 : Int32) <<< (x2 &&& 31))) x2 h
     ) else (
      fX1_aliveSet_30 (fun z0 z1 z2 zh => fX1_aliveSet_4 n z0 z1 z2 zh) a0 x1 x2 h
     )
    )
set_option maxRecDepth 100000 in
set_option maxHeartbeats 1000000 in
theorem sX1_aliveSet_4 {G : gz_G} {d l0 s0 : Nat} {Q : Int32 → gz_H → Prop} : ∀ (n : Nat) (a0 : Nat) (x1 : Int32) (x2 : Int32) (h : gz_H), gz_g (fX1_aliveSet_4  n a0 x1 x2 h) Q → gz_Ok G mX1_aliveSet (d + 0, l0, s0, 0, 0) 4 [.ref a0, .int x1, .int x2] [] h (gz_qi Q) := by
  intro n
  induction n with
  | zero => intro a0 x1 x2 h hf; exact False.elim hf
  | succ n ih =>
    intro a0 x1 x2 h hf
    rw [fX1_aliveSet_4] at hf
    refine gz_iload_n (pc := 4) dX1_aliveSet_4 rfl rfl ?_
    refine gz_aload_n (pc := 5) dX1_aliveSet_5 rfl rfl ?_
    refine gz_gk hf (fun c_1 hf => ?_)
    refine gz_getI (pc := 6) dX1_aliveSet_6 fl_RX1_32 rfl (gz_shs c_1) ?_
    refine gz_icmp_ge (tgt := 36) (pc := 9) dX1_aliveSet_9 rfl (fun c_2 => ?_) (fun c_2 => ?_)
    · have hf := gz_gT hf c_2
      refine gz_iload_n (pc := 36) dX1_aliveSet_36 rfl rfl ?_
      exact gz_irt (pc := 37) dX1_aliveSet_37 rfl rfl hf
    · have hf := gz_gF hf c_2
      refine gz_aload_n (pc := 12) dX1_aliveSet_12 rfl rfl ?_
      refine gz_gb hf (fun r_3 er_3 hf => ?_)
      refine gz_getR (pc := 13) dX1_aliveSet_13 fl_RX1_17 rfl (gz_shs c_1) er_3 ?_
      refine gz_iload_n (pc := 16) dX1_aliveSet_16 rfl rfl ?_
      refine gz_gk hf (fun c_4 hf => ?_)
      refine gz_gb hf (fun r_5 er_5 hf => ?_)
      refine gz_aald (Or.inl rfl) (pc := 17) dX1_aliveSet_17 c_4 er_5 ?_
      refine gz_gk hf (fun c_6 hf => ?_)
      refine gz_getI (pc := 18) dX1_aliveSet_18 fl_RX1_39 rfl (gz_shs c_6) ?_
      refine gz_if_ne (tgt := 30) (pc := 21) dX1_aliveSet_21 rfl (fun c_7 => ?_) (fun c_7 => ?_)
      · have hf := gz_gF hf c_7
        exact sX1_aliveSet_30 ih a0 x1 x2 h hf
      · have hf := gz_gT hf c_7
        refine gz_iload_n (pc := 24) dX1_aliveSet_24 rfl rfl ?_
        refine gz_iconst (v := (1 : Int32)) (pc := 25) dX1_aliveSet_25 rfl ?_
        refine gz_iload_n (pc := 26) dX1_aliveSet_26 rfl rfl ?_
        refine gz_ishl (pc := 27) dX1_aliveSet_27 ?_
        refine gz_ior (pc := 28) dX1_aliveSet_28 ?_
        refine gz_istore_n (lv := [.ref a0, .int (x1 ||| ((1 : Int32) <<< (x2 &&& 31))), .int x2]) (pc := 29) dX1_aliveSet_29 rfl (by decide) rfl ?_
        exact sX1_aliveSet_30 ih a0 (x1 ||| ((1 : Int32) <<< (x2 &&& 31))) x2 h hf
def fX1_aliveSet_0  (a0 : Nat) (h : gz_H) : Option (Int32 × gz_H) :=
    fX1_aliveSet_4 gz_fu a0 (0 : Int32) (0 : Int32) h
set_option maxRecDepth 100000 in
set_option maxHeartbeats 1000000 in
theorem sX1_aliveSet_0 {G : gz_G} {d l0 s0 : Nat} {Q : Int32 → gz_H → Prop} (a0 : Nat) (h : gz_H) (hf : gz_g (fX1_aliveSet_0  a0 h) Q) : gz_Ok G mX1_aliveSet (d + 0, l0, s0, 0, 0) 0 [.ref a0, .retAddr 0, .retAddr 0] [] h (gz_qi Q) := by
  unfold fX1_aliveSet_0 at hf
  refine gz_iconst (v := (0 : Int32)) (pc := 0) dX1_aliveSet_0 rfl ?_
  refine gz_istore_n (lv := [.ref a0, .int (0 : Int32), .retAddr 0]) (pc := 1) dX1_aliveSet_1 rfl (by decide) rfl ?_
  refine gz_iconst (v := (0 : Int32)) (pc := 2) dX1_aliveSet_2 rfl ?_
  refine gz_istore_n (lv := [.ref a0, .int (0 : Int32), .int (0 : Int32)]) (pc := 3) dX1_aliveSet_3 rfl (by decide) rfl ?_
  exact sX1_aliveSet_4 gz_fu a0 (0 : Int32) (0 : Int32) h hf
def fX1_aliveSet (a0 : Nat) (h : gz_H) : Option (Int32 × gz_H) := fX1_aliveSet_0 a0 h
theorem sX1_aliveSet {G : gz_G} {d : Nat} {a0 : Nat} {h : gz_H} {Q : Int32 → gz_H → Prop} (hf : gz_g (fX1_aliveSet a0 h) Q) : gz_Cl G mX1_aliveSet (d + 0) 0 0 [.ref a0] h (gz_qi Q) := gz_cl_of (lo := [.ref a0, .retAddr 0, .retAddr 0]) (by decide) rfl rfl (Nat.le_of_ble_eq_true rfl) (sX1_aliveSet_0 a0 h hf)
theorem dJ6_bitCount_0f7a4_0 : decode cJ6_bitCount_0f7a4 0 = .ok (.iload_n 0, 1) := by decide +kernel
theorem dJ6_bitCount_0f7a4_1 : decode cJ6_bitCount_0f7a4 1 = .ok (.iload_n 0, 1) := by decide +kernel
theorem dJ6_bitCount_0f7a4_2 : decode cJ6_bitCount_0f7a4 2 = .ok (.iconst 1, 1) := by decide +kernel
theorem dJ6_bitCount_0f7a4_3 : decode cJ6_bitCount_0f7a4 3 = .ok (.iushr, 1) := by decide +kernel
theorem dJ6_bitCount_0f7a4_4 : decode cJ6_bitCount_0f7a4 4 = .ok (.ldc_w 265, 3) := by decide +kernel
theorem dJ6_bitCount_0f7a4_7 : decode cJ6_bitCount_0f7a4 7 = .ok (.iand, 1) := by decide +kernel
theorem dJ6_bitCount_0f7a4_8 : decode cJ6_bitCount_0f7a4 8 = .ok (.isub, 1) := by decide +kernel
theorem dJ6_bitCount_0f7a4_9 : decode cJ6_bitCount_0f7a4 9 = .ok (.istore_n 0, 1) := by decide +kernel
theorem dJ6_bitCount_0f7a4_10 : decode cJ6_bitCount_0f7a4 10 = .ok (.iload_n 0, 1) := by decide +kernel
theorem dJ6_bitCount_0f7a4_11 : decode cJ6_bitCount_0f7a4 11 = .ok (.ldc_w 266, 3) := by decide +kernel
theorem dJ6_bitCount_0f7a4_14 : decode cJ6_bitCount_0f7a4 14 = .ok (.iand, 1) := by decide +kernel
theorem dJ6_bitCount_0f7a4_15 : decode cJ6_bitCount_0f7a4 15 = .ok (.iload_n 0, 1) := by decide +kernel
theorem dJ6_bitCount_0f7a4_16 : decode cJ6_bitCount_0f7a4 16 = .ok (.iconst 2, 1) := by decide +kernel
theorem dJ6_bitCount_0f7a4_17 : decode cJ6_bitCount_0f7a4 17 = .ok (.iushr, 1) := by decide +kernel
theorem dJ6_bitCount_0f7a4_18 : decode cJ6_bitCount_0f7a4 18 = .ok (.ldc_w 266, 3) := by decide +kernel
theorem dJ6_bitCount_0f7a4_21 : decode cJ6_bitCount_0f7a4 21 = .ok (.iand, 1) := by decide +kernel
theorem dJ6_bitCount_0f7a4_22 : decode cJ6_bitCount_0f7a4 22 = .ok (.iadd, 1) := by decide +kernel
theorem dJ6_bitCount_0f7a4_23 : decode cJ6_bitCount_0f7a4 23 = .ok (.istore_n 0, 1) := by decide +kernel
theorem dJ6_bitCount_0f7a4_24 : decode cJ6_bitCount_0f7a4 24 = .ok (.iload_n 0, 1) := by decide +kernel
theorem dJ6_bitCount_0f7a4_25 : decode cJ6_bitCount_0f7a4 25 = .ok (.iload_n 0, 1) := by decide +kernel
theorem dJ6_bitCount_0f7a4_26 : decode cJ6_bitCount_0f7a4 26 = .ok (.iconst 4, 1) := by decide +kernel
theorem dJ6_bitCount_0f7a4_27 : decode cJ6_bitCount_0f7a4 27 = .ok (.iushr, 1) := by decide +kernel
theorem dJ6_bitCount_0f7a4_28 : decode cJ6_bitCount_0f7a4 28 = .ok (.iadd, 1) := by decide +kernel
theorem dJ6_bitCount_0f7a4_29 : decode cJ6_bitCount_0f7a4 29 = .ok (.ldc_w 267, 3) := by decide +kernel
theorem dJ6_bitCount_0f7a4_32 : decode cJ6_bitCount_0f7a4 32 = .ok (.iand, 1) := by decide +kernel
theorem dJ6_bitCount_0f7a4_33 : decode cJ6_bitCount_0f7a4 33 = .ok (.istore_n 0, 1) := by decide +kernel
theorem dJ6_bitCount_0f7a4_34 : decode cJ6_bitCount_0f7a4 34 = .ok (.iload_n 0, 1) := by decide +kernel
theorem dJ6_bitCount_0f7a4_35 : decode cJ6_bitCount_0f7a4 35 = .ok (.iload_n 0, 1) := by decide +kernel
theorem dJ6_bitCount_0f7a4_36 : decode cJ6_bitCount_0f7a4 36 = .ok (.bipush 8, 2) := by decide +kernel
theorem dJ6_bitCount_0f7a4_38 : decode cJ6_bitCount_0f7a4 38 = .ok (.iushr, 1) := by decide +kernel
theorem dJ6_bitCount_0f7a4_39 : decode cJ6_bitCount_0f7a4 39 = .ok (.iadd, 1) := by decide +kernel
theorem dJ6_bitCount_0f7a4_40 : decode cJ6_bitCount_0f7a4 40 = .ok (.istore_n 0, 1) := by decide +kernel
theorem dJ6_bitCount_0f7a4_41 : decode cJ6_bitCount_0f7a4 41 = .ok (.iload_n 0, 1) := by decide +kernel
theorem dJ6_bitCount_0f7a4_42 : decode cJ6_bitCount_0f7a4 42 = .ok (.iload_n 0, 1) := by decide +kernel
theorem dJ6_bitCount_0f7a4_43 : decode cJ6_bitCount_0f7a4 43 = .ok (.bipush 16, 2) := by decide +kernel
theorem dJ6_bitCount_0f7a4_45 : decode cJ6_bitCount_0f7a4 45 = .ok (.iushr, 1) := by decide +kernel
theorem dJ6_bitCount_0f7a4_46 : decode cJ6_bitCount_0f7a4 46 = .ok (.iadd, 1) := by decide +kernel
theorem dJ6_bitCount_0f7a4_47 : decode cJ6_bitCount_0f7a4 47 = .ok (.istore_n 0, 1) := by decide +kernel
theorem dJ6_bitCount_0f7a4_48 : decode cJ6_bitCount_0f7a4 48 = .ok (.iload_n 0, 1) := by decide +kernel
theorem dJ6_bitCount_0f7a4_49 : decode cJ6_bitCount_0f7a4 49 = .ok (.bipush 63, 2) := by decide +kernel
theorem dJ6_bitCount_0f7a4_51 : decode cJ6_bitCount_0f7a4 51 = .ok (.iand, 1) := by decide +kernel
theorem dJ6_bitCount_0f7a4_52 : decode cJ6_bitCount_0f7a4 52 = .ok (.ireturn, 1) := by decide +kernel
def fJ6_bitCount_0f7a4_0  (x0 : Int32) (h : gz_H) : Option (Int32 × gz_H) :=
    gz_lt (x0 - (((x0.toUInt32 >>> ((1 : Int32).toUInt32 &&& Int32.toUInt32 31)).toInt32) &&& (1431655765 : Int32))) fun (y_1 : Int32) =>
    gz_lt ((y_1 &&& (858993459 : Int32)) + (((y_1.toUInt32 >>> ((2 : Int32).toUInt32 &&& Int32.toUInt32 31)).toInt32) &&& (858993459 : Int32))) fun (y_2 : Int32) =>
    gz_lt ((y_2 + ((y_2.toUInt32 >>> ((4 : Int32).toUInt32 &&& Int32.toUInt32 31)).toInt32)) &&& (252645135 : Int32)) fun (y_3 : Int32) =>
    gz_lt (y_3 + ((y_3.toUInt32 >>> ((8 : Int32).toUInt32 &&& Int32.toUInt32 31)).toInt32)) fun (y_4 : Int32) =>
    gz_lt (y_4 + ((y_4.toUInt32 >>> ((16 : Int32).toUInt32 &&& Int32.toUInt32 31)).toInt32)) fun (y_5 : Int32) =>
    some (y_5 &&& (63 : Int32), h)
set_option maxRecDepth 100000 in
set_option maxHeartbeats 1000000 in
theorem sJ6_bitCount_0f7a4_0 {G : gz_G} {d l0 s0 : Nat} {Q : Int32 → gz_H → Prop} (x0 : Int32) (h : gz_H) (hf : gz_g (fJ6_bitCount_0f7a4_0  x0 h) Q) : gz_Ok G mJ6_bitCount_0f7a4 (d + 0, l0, s0, 0, 0) 0 [.int x0] [] h (gz_qi Q) := by
  unfold fJ6_bitCount_0f7a4_0 at hf
  refine gz_iload_n (pc := 0) dJ6_bitCount_0f7a4_0 rfl rfl ?_
  refine gz_iload_n (pc := 1) dJ6_bitCount_0f7a4_1 rfl rfl ?_
  refine gz_iconst (v := (1 : Int32)) (pc := 2) dJ6_bitCount_0f7a4_2 rfl ?_
  refine gz_iushr (pc := 3) dJ6_bitCount_0f7a4_3 ?_
  refine gz_ldcw (v := (1431655765 : Int32)) (pc := 4) dJ6_bitCount_0f7a4_4 kc_RJ6_265 ?_
  refine gz_iand (pc := 7) dJ6_bitCount_0f7a4_7 ?_
  refine gz_isub (pc := 8) dJ6_bitCount_0f7a4_8 ?_
  refine gz_nmI (fun y_1 ey_1 => ?_)
  have hf := gz_gl ey_1 hf
  refine gz_istore_n (lv := [.int y_1]) (pc := 9) dJ6_bitCount_0f7a4_9 rfl (by decide) rfl ?_
  refine gz_iload_n (pc := 10) dJ6_bitCount_0f7a4_10 rfl rfl ?_
  refine gz_ldcw (v := (858993459 : Int32)) (pc := 11) dJ6_bitCount_0f7a4_11 kc_RJ6_266 ?_
  refine gz_iand (pc := 14) dJ6_bitCount_0f7a4_14 ?_
  refine gz_iload_n (pc := 15) dJ6_bitCount_0f7a4_15 rfl rfl ?_
  refine gz_iconst (v := (2 : Int32)) (pc := 16) dJ6_bitCount_0f7a4_16 rfl ?_
  refine gz_iushr (pc := 17) dJ6_bitCount_0f7a4_17 ?_
  refine gz_ldcw (v := (858993459 : Int32)) (pc := 18) dJ6_bitCount_0f7a4_18 kc_RJ6_266 ?_
  refine gz_iand (pc := 21) dJ6_bitCount_0f7a4_21 ?_
  refine gz_iadd (pc := 22) dJ6_bitCount_0f7a4_22 ?_
  refine gz_nmI (fun y_2 ey_2 => ?_)
  have hf := gz_gl ey_2 hf
  refine gz_istore_n (lv := [.int y_2]) (pc := 23) dJ6_bitCount_0f7a4_23 rfl (by decide) rfl ?_
  refine gz_iload_n (pc := 24) dJ6_bitCount_0f7a4_24 rfl rfl ?_
  refine gz_iload_n (pc := 25) dJ6_bitCount_0f7a4_25 rfl rfl ?_
  refine gz_iconst (v := (4 : Int32)) (pc := 26) dJ6_bitCount_0f7a4_26 rfl ?_
  refine gz_iushr (pc := 27) dJ6_bitCount_0f7a4_27 ?_
  refine gz_iadd (pc := 28) dJ6_bitCount_0f7a4_28 ?_
  refine gz_ldcw (v := (252645135 : Int32)) (pc := 29) dJ6_bitCount_0f7a4_29 kc_RJ6_267 ?_
  refine gz_iand (pc := 32) dJ6_bitCount_0f7a4_32 ?_
  refine gz_nmI (fun y_3 ey_3 => ?_)
  have hf := gz_gl ey_3 hf
  refine gz_istore_n (lv := [.int y_3]) (pc := 33) dJ6_bitCount_0f7a4_33 rfl (by decide) rfl ?_
  refine gz_iload_n (pc := 34) dJ6_bitCount_0f7a4_34 rfl rfl ?_
  refine gz_iload_n (pc := 35) dJ6_bitCount_0f7a4_35 rfl rfl ?_
  refine gz_bipush (v := (8 : Int32)) (pc := 36) dJ6_bitCount_0f7a4_36 rfl ?_
  refine gz_iushr (pc := 38) dJ6_bitCount_0f7a4_38 ?_
  refine gz_iadd (pc := 39) dJ6_bitCount_0f7a4_39 ?_
  refine gz_nmI (fun y_4 ey_4 => ?_)
  have hf := gz_gl ey_4 hf
  refine gz_istore_n (lv := [.int y_4]) (pc := 40) dJ6_bitCount_0f7a4_40 rfl (by decide) rfl ?_
  refine gz_iload_n (pc := 41) dJ6_bitCount_0f7a4_41 rfl rfl ?_
  refine gz_iload_n (pc := 42) dJ6_bitCount_0f7a4_42 rfl rfl ?_
  refine gz_bipush (v := (16 : Int32)) (pc := 43) dJ6_bitCount_0f7a4_43 rfl ?_
  refine gz_iushr (pc := 45) dJ6_bitCount_0f7a4_45 ?_
  refine gz_iadd (pc := 46) dJ6_bitCount_0f7a4_46 ?_
  refine gz_nmI (fun y_5 ey_5 => ?_)
  have hf := gz_gl ey_5 hf
  refine gz_istore_n (lv := [.int y_5]) (pc := 47) dJ6_bitCount_0f7a4_47 rfl (by decide) rfl ?_
  refine gz_iload_n (pc := 48) dJ6_bitCount_0f7a4_48 rfl rfl ?_
  refine gz_bipush (v := (63 : Int32)) (pc := 49) dJ6_bitCount_0f7a4_49 rfl ?_
  refine gz_iand (pc := 51) dJ6_bitCount_0f7a4_51 ?_
  exact gz_irt (pc := 52) dJ6_bitCount_0f7a4_52 rfl rfl hf
def fJ6_bitCount_0f7a4 (x0 : Int32) (h : gz_H) : Option (Int32 × gz_H) := fJ6_bitCount_0f7a4_0 x0 h
theorem sJ6_bitCount_0f7a4 {G : gz_G} {d : Nat} {x0 : Int32} {h : gz_H} {Q : Int32 → gz_H → Prop} (hf : gz_g (fJ6_bitCount_0f7a4 x0 h) Q) : gz_Cl G mJ6_bitCount_0f7a4 (d + 0) 0 0 [.int x0] h (gz_qi Q) := gz_cl_of (lo := [.int x0]) (by decide) rfl rfl (Nat.le_of_ble_eq_true rfl) (sJ6_bitCount_0f7a4_0 x0 h hf)
theorem dX1_alive_0 : decode cX1_alive 0 = .ok (.aload_n 0, 1) := by decide +kernel
theorem dX1_alive_1 : decode cX1_alive 1 = .ok (.invokevirtual 43, 3) := by decide +kernel
theorem dX1_alive_4 : decode cX1_alive 4 = .ok (.invokestatic 47, 3) := by decide +kernel
theorem dX1_alive_7 : decode cX1_alive 7 = .ok (.ireturn, 1) := by decide +kernel
def fX1_alive_0  (a0 : Nat) (h : gz_H) : Option (Int32 × gz_H) :=
    gz_ck (gz_sh h a0 1 4) <|
    gz_b2 (fX1_aliveSet a0 h) fun y_2 h_1 =>
    gz_b2 (fJ6_bitCount_0f7a4 y_2 h_1) fun y_5 h_4 =>
    some (y_5, h_4)
set_option maxRecDepth 100000 in
set_option maxHeartbeats 1000000 in
theorem sX1_alive_0 {G : gz_G} {d l0 s0 : Nat} {Q : Int32 → gz_H → Prop} (a0 : Nat) (h : gz_H) (hf : gz_g (fX1_alive_0  a0 h) Q) : gz_Ok G mX1_alive (d + 1, l0, s0, 0, 0) 0 [.ref a0] [] h (gz_qi Q) := by
  unfold fX1_alive_0 at hf
  refine gz_aload_n (pc := 0) dX1_alive_0 rfl rfl ?_
  refine gz_gk hf (fun c_3 hf => ?_)
  refine gz_cVI (av := []) (st := []) (pc := 1) dX1_alive_1 kl_RX1_43 rfl (gz_shs c_3) rfl rfl (Nat.le_of_ble_eq_true rfl) (by show d + 0 + 0 + 1 ≤ d + 1; omega) (sX1_aliveSet (d := d + 0) (gz_gc hf)) (fun y_2 h_1 hf => ?_)
  refine gz_cSI (av := [.int y_2]) (st := []) (pc := 4) dX1_alive_4 kl_RX1_47 rfl rfl (Nat.le_of_ble_eq_true rfl) (by show d + 0 + 0 + 1 ≤ d + 1; omega) (sJ6_bitCount_0f7a4 (d := d + 0) (gz_gc hf)) (fun y_5 h_4 hf => ?_)
  exact gz_irt (pc := 7) dX1_alive_7 rfl rfl hf
def fX1_alive (a0 : Nat) (h : gz_H) : Option (Int32 × gz_H) := fX1_alive_0 a0 h
theorem sX1_alive {G : gz_G} {d : Nat} {a0 : Nat} {h : gz_H} {Q : Int32 → gz_H → Prop} (hf : gz_g (fX1_alive a0 h) Q) : gz_Cl G mX1_alive (d + 1) 0 0 [.ref a0] h (gz_qi Q) := gz_cl_of (lo := [.ref a0]) (by decide) rfl rfl (Nat.le_of_ble_eq_true rfl) (sX1_alive_0 a0 h hf)
theorem dX8_isOf_0 : decode cX8_isOf 0 = .ok (.iload_n 0, 1) := by decide +kernel
theorem dX8_isOf_1 : decode cX8_isOf 1 = .ok (.iload_n 1, 1) := by decide +kernel
theorem dX8_isOf_2 : decode cX8_isOf 2 = .ok (.if_icmp .eq 23, 3) := by decide +kernel
theorem dX8_isOf_5 : decode cX8_isOf 5 = .ok (.iload_n 0, 1) := by decide +kernel
theorem dX8_isOf_6 : decode cX8_isOf 6 = .ok (.iconst 5, 1) := by decide +kernel
theorem dX8_isOf_7 : decode cX8_isOf 7 = .ok (.if_icmp .ne 8, 3) := by decide +kernel
theorem dX8_isOf_10 : decode cX8_isOf 10 = .ok (.iload_n 1, 1) := by decide +kernel
theorem dX8_isOf_11 : decode cX8_isOf 11 = .ok (.iconst 1, 1) := by decide +kernel
theorem dX8_isOf_12 : decode cX8_isOf 12 = .ok (.if_icmp .eq 13, 3) := by decide +kernel
theorem dX8_isOf_15 : decode cX8_isOf 15 = .ok (.iload_n 0, 1) := by decide +kernel
theorem dX8_isOf_16 : decode cX8_isOf 16 = .ok (.iconst 4, 1) := by decide +kernel
theorem dX8_isOf_17 : decode cX8_isOf 17 = .ok (.if_icmp .ne 12, 3) := by decide +kernel
theorem dX8_isOf_20 : decode cX8_isOf 20 = .ok (.iload_n 1, 1) := by decide +kernel
theorem dX8_isOf_21 : decode cX8_isOf 21 = .ok (.iconst 3, 1) := by decide +kernel
theorem dX8_isOf_22 : decode cX8_isOf 22 = .ok (.if_icmp .ne 7, 3) := by decide +kernel
theorem dX8_isOf_25 : decode cX8_isOf 25 = .ok (.iconst 1, 1) := by decide +kernel
theorem dX8_isOf_26 : decode cX8_isOf 26 = .ok (.goto 4, 3) := by decide +kernel
theorem dX8_isOf_29 : decode cX8_isOf 29 = .ok (.iconst 0, 1) := by decide +kernel
theorem dX8_isOf_30 : decode cX8_isOf 30 = .ok (.ireturn, 1) := by decide +kernel
def fX8_isOf_25   (h : gz_H) : Option (Int32 × gz_H) :=
    some ((1 : Int32), h)
set_option maxRecDepth 100000 in
set_option maxHeartbeats 1000000 in
theorem sX8_isOf_25 {G : gz_G} {d l0 s0 : Nat} {Q : Int32 → gz_H → Prop}  (h : gz_H) (hf : gz_g (fX8_isOf_25   h) Q) : gz_Ok G mX8_isOf (d + 0, l0, s0, 0, 0) 25 [.retAddr 0, .retAddr 0] [] h (gz_qi Q) := by
  unfold fX8_isOf_25 at hf
  refine gz_iconst (v := (1 : Int32)) (pc := 25) dX8_isOf_25 rfl ?_
  refine gz_goto (tgt := 30) (pc := 26) dX8_isOf_26 rfl ?_
  exact gz_irt (pc := 30) dX8_isOf_30 rfl rfl hf
def fX8_isOf_15  (x0 : Int32) (x1 : Int32) (h : gz_H) : Option (Int32 × gz_H) :=
    if x0 = (4 : Int32) then (
     if x1 = (3 : Int32) then (
      fX8_isOf_25 h
     ) else (
      some ((0 : Int32), h)
     )
    ) else (
     some ((0 : Int32), h)
    )
set_option maxRecDepth 100000 in
set_option maxHeartbeats 1000000 in
theorem sX8_isOf_15 {G : gz_G} {d l0 s0 : Nat} {Q : Int32 → gz_H → Prop} (x0 : Int32) (x1 : Int32) (h : gz_H) (hf : gz_g (fX8_isOf_15  x0 x1 h) Q) : gz_Ok G mX8_isOf (d + 0, l0, s0, 0, 0) 15 [.int x0, .int x1] [] h (gz_qi Q) := by
  unfold fX8_isOf_15 at hf
  refine gz_iload_n (pc := 15) dX8_isOf_15 rfl rfl ?_
  refine gz_iconst (v := (4 : Int32)) (pc := 16) dX8_isOf_16 rfl ?_
  refine gz_icmp_ne (tgt := 29) (pc := 17) dX8_isOf_17 rfl (fun c_1 => ?_) (fun c_1 => ?_)
  · have hf := gz_gF hf c_1
    refine gz_iconst (v := (0 : Int32)) (pc := 29) dX8_isOf_29 rfl ?_
    exact gz_irt (pc := 30) dX8_isOf_30 rfl rfl hf
  · have hf := gz_gT hf c_1
    refine gz_iload_n (pc := 20) dX8_isOf_20 rfl rfl ?_
    refine gz_iconst (v := (3 : Int32)) (pc := 21) dX8_isOf_21 rfl ?_
    refine gz_icmp_ne (tgt := 29) (pc := 22) dX8_isOf_22 rfl (fun c_2 => ?_) (fun c_2 => ?_)
    · have hf := gz_gF hf c_2
      refine gz_iconst (v := (0 : Int32)) (pc := 29) dX8_isOf_29 rfl ?_
      exact gz_irt (pc := 30) dX8_isOf_30 rfl rfl hf
    · have hf := gz_gT hf c_2
      refine gz_fg (lv := [.retAddr 0, .retAddr 0]) ⟨Or.inl rfl, ⟨Or.inl rfl, trivial⟩⟩ ?_
      exact sX8_isOf_25 h hf
def fX8_isOf_0  (x0 : Int32) (x1 : Int32) (h : gz_H) : Option (Int32 × gz_H) :=
    if x0 = x1 then (
     fX8_isOf_25 h
    ) else (
     if x0 = (5 : Int32) then (
      if x1 = (1 : Int32) then (
       fX8_isOf_25 h
      ) else (
       fX8_isOf_15 x0 x1 h
      )
     ) else (
      fX8_isOf_15 x0 x1 h
     )
    )
set_option maxRecDepth 100000 in
set_option maxHeartbeats 1000000 in
theorem sX8_isOf_0 {G : gz_G} {d l0 s0 : Nat} {Q : Int32 → gz_H → Prop} (x0 : Int32) (x1 : Int32) (h : gz_H) (hf : gz_g (fX8_isOf_0  x0 x1 h) Q) : gz_Ok G mX8_isOf (d + 0, l0, s0, 0, 0) 0 [.int x0, .int x1] [] h (gz_qi Q) := by
  unfold fX8_isOf_0 at hf
  refine gz_iload_n (pc := 0) dX8_isOf_0 rfl rfl ?_
  refine gz_iload_n (pc := 1) dX8_isOf_1 rfl rfl ?_
  refine gz_icmp_eq (tgt := 25) (pc := 2) dX8_isOf_2 rfl (fun c_1 => ?_) (fun c_1 => ?_)
  · have hf := gz_gT hf c_1
    refine gz_fg (lv := [.retAddr 0, .retAddr 0]) ⟨Or.inl rfl, ⟨Or.inl rfl, trivial⟩⟩ ?_
    exact sX8_isOf_25 h hf
  · have hf := gz_gF hf c_1
    refine gz_iload_n (pc := 5) dX8_isOf_5 rfl rfl ?_
    refine gz_iconst (v := (5 : Int32)) (pc := 6) dX8_isOf_6 rfl ?_
    refine gz_icmp_ne (tgt := 15) (pc := 7) dX8_isOf_7 rfl (fun c_2 => ?_) (fun c_2 => ?_)
    · have hf := gz_gF hf c_2
      exact sX8_isOf_15 x0 x1 h hf
    · have hf := gz_gT hf c_2
      refine gz_iload_n (pc := 10) dX8_isOf_10 rfl rfl ?_
      refine gz_iconst (v := (1 : Int32)) (pc := 11) dX8_isOf_11 rfl ?_
      refine gz_icmp_eq (tgt := 25) (pc := 12) dX8_isOf_12 rfl (fun c_3 => ?_) (fun c_3 => ?_)
      · have hf := gz_gT hf c_3
        refine gz_fg (lv := [.retAddr 0, .retAddr 0]) ⟨Or.inl rfl, ⟨Or.inl rfl, trivial⟩⟩ ?_
        exact sX8_isOf_25 h hf
      · have hf := gz_gF hf c_3
        exact sX8_isOf_15 x0 x1 h hf
def fX8_isOf (x0 : Int32) (x1 : Int32) (h : gz_H) : Option (Int32 × gz_H) := fX8_isOf_0 x0 x1 h
theorem sX8_isOf {G : gz_G} {d : Nat} {x0 : Int32} {x1 : Int32} {h : gz_H} {Q : Int32 → gz_H → Prop} (hf : gz_g (fX8_isOf x0 x1 h) Q) : gz_Cl G mX8_isOf (d + 0) 0 0 [.int x0, .int x1] h (gz_qi Q) := gz_cl_of (lo := [.int x0, .int x1]) (by decide) rfl rfl (Nat.le_of_ble_eq_true rfl) (sX8_isOf_0 x0 x1 h hf)
theorem dX1_countOfKind_0 : decode cX1_countOfKind 0 = .ok (.iconst 0, 1) := by decide +kernel
theorem dX1_countOfKind_1 : decode cX1_countOfKind 1 = .ok (.istore_n 2, 1) := by decide +kernel
theorem dX1_countOfKind_2 : decode cX1_countOfKind 2 = .ok (.iconst 0, 1) := by decide +kernel
theorem dX1_countOfKind_3 : decode cX1_countOfKind 3 = .ok (.istore_n 3, 1) := by decide +kernel
theorem dX1_countOfKind_4 : decode cX1_countOfKind 4 = .ok (.iload_n 3, 1) := by decide +kernel
theorem dX1_countOfKind_5 : decode cX1_countOfKind 5 = .ok (.aload_n 0, 1) := by decide +kernel
theorem dX1_countOfKind_6 : decode cX1_countOfKind 6 = .ok (.getfield 32, 3) := by decide +kernel
theorem dX1_countOfKind_9 : decode cX1_countOfKind 9 = .ok (.if_icmp .ge 28, 3) := by decide +kernel
theorem dX1_countOfKind_12 : decode cX1_countOfKind 12 = .ok (.aload_n 0, 1) := by decide +kernel
theorem dX1_countOfKind_13 : decode cX1_countOfKind 13 = .ok (.getfield 17, 3) := by decide +kernel
theorem dX1_countOfKind_16 : decode cX1_countOfKind 16 = .ok (.iload_n 3, 1) := by decide +kernel
theorem dX1_countOfKind_17 : decode cX1_countOfKind 17 = .ok (.aaload, 1) := by decide +kernel
theorem dX1_countOfKind_18 : decode cX1_countOfKind 18 = .ok (.getfield 53, 3) := by decide +kernel
theorem dX1_countOfKind_21 : decode cX1_countOfKind 21 = .ok (.iload_n 1, 1) := by decide +kernel
theorem dX1_countOfKind_22 : decode cX1_countOfKind 22 = .ok (.invokestatic 56, 3) := by decide +kernel
theorem dX1_countOfKind_25 : decode cX1_countOfKind 25 = .ok (.ifCond .eq 6, 3) := by decide +kernel
theorem dX1_countOfKind_28 : decode cX1_countOfKind 28 = .ok (.iinc 2 1, 3) := by decide +kernel
theorem dX1_countOfKind_31 : decode cX1_countOfKind 31 = .ok (.iinc 3 1, 3) := by decide +kernel
theorem dX1_countOfKind_34 : decode cX1_countOfKind 34 = .ok (.goto (-30), 3) := by decide +kernel
theorem dX1_countOfKind_37 : decode cX1_countOfKind 37 = .ok (.iload_n 2, 1) := by decide +kernel
theorem dX1_countOfKind_38 : decode cX1_countOfKind 38 = .ok (.ireturn, 1) := by decide +kernel
def fX1_countOfKind_31 (k4 : Nat → Int32 → Int32 → Int32 → gz_H → Option (Int32 × gz_H)) (a0 : Nat) (x1 : Int32) (x2 : Int32) (x3 : Int32) (h : gz_H) : Option (Int32 × gz_H) :=
    k4 a0 x1 x2 (x3 + 1) h
set_option maxRecDepth 100000 in
set_option maxHeartbeats 1000000 in
theorem sX1_countOfKind_31 {G : gz_G} {d l0 s0 : Nat} {Q : Int32 → gz_H → Prop} {k4 : Nat → Int32 → Int32 → Int32 → gz_H → Option (Int32 × gz_H)} (hk4 : ∀ (a0 : Nat) (x1 : Int32) (x2 : Int32) (x3 : Int32) (h : gz_H), gz_g (k4 a0 x1 x2 x3 h) Q → gz_Ok G mX1_countOfKind (d + 1, l0, s0, 0, 0) 4 [.ref a0, .int x1, .int x2, .int x3] [] h (gz_qi Q)) (a0 : Nat) (x1 : Int32) (x2 : Int32) (x3 : Int32) (h : gz_H) (hf : gz_g (fX1_countOfKind_31 k4 a0 x1 x2 x3 h) Q) : gz_Ok G mX1_countOfKind (d + 1, l0, s0, 0, 0) 31 [.ref a0, .int x1, .int x2, .int x3] [] h (gz_qi Q) := by
  unfold fX1_countOfKind_31 at hf
  refine gz_iinc (v := x3 + 1) (lv := [.ref a0, .int x1, .int x2, .int (x3 + 1)]) (pc := 31) dX1_countOfKind_31 rfl rfl (by decide) rfl ?_
  refine gz_goto (tgt := 4) (pc := 34) dX1_countOfKind_34 rfl ?_
  exact hk4 a0 x1 x2 (x3 + 1) h hf
def fX1_countOfKind_4  : Nat → Nat → Int32 → Int32 → Int32 → gz_H → Option (Int32 × gz_H)
  | 0, _, _, _, _, _ => none
  | n + 1, a0, x1, x2, x3, h =>
    gz_ck (gz_sh h a0 1 4) <|
    if (h.2.1 a0 3) ≤ x3 then (
     some (x2, h)
    ) else (
     gz_br (h.2.2.2 a0 1) fun r_3 =>
     gz_ck (gz_inb h r_3 11 x3) <|
     gz_br (h.2.2.2 r_3 x3.toNatClampNeg) fun r_5 =>
     gz_ck (gz_sh h r_5 2 6) <|
     gz_b2 (fX8_isOf (h.2.1 r_5 2) x1 h) fun y_8 h_7 =>
     if y_8 = 0 then (
      fX1_countOfKind_31 (fun z0 z1 z2 z3 zh => fX1_countOfKind_4 n z0 z1 z2 z3 zh) a0 x1 x2 x3 h_7
     ) else (
      fX1_countOfKind_31 (fun z0 z1 z2 z3 zh => fX1_countOfKind_4 n z0 z1 z2 z3 zh) a0 x1 (x2 + 1) x3 h_7
     )
    )
set_option maxRecDepth 100000 in
set_option maxHeartbeats 1000000 in
theorem sX1_countOfKind_4 {G : gz_G} {d l0 s0 : Nat} {Q : Int32 → gz_H → Prop} : ∀ (n : Nat) (a0 : Nat) (x1 : Int32) (x2 : Int32) (x3 : Int32) (h : gz_H), gz_g (fX1_countOfKind_4  n a0 x1 x2 x3 h) Q → gz_Ok G mX1_countOfKind (d + 1, l0, s0, 0, 0) 4 [.ref a0, .int x1, .int x2, .int x3] [] h (gz_qi Q) := by
  intro n
  induction n with
  | zero => intro a0 x1 x2 x3 h hf; exact False.elim hf
  | succ n ih =>
    intro a0 x1 x2 x3 h hf
    rw [fX1_countOfKind_4] at hf
    refine gz_iload_n (pc := 4) dX1_countOfKind_4 rfl rfl ?_
    refine gz_aload_n (pc := 5) dX1_countOfKind_5 rfl rfl ?_
    refine gz_gk hf (fun c_1 hf => ?_)
    refine gz_getI (pc := 6) dX1_countOfKind_6 fl_RX1_32 rfl (gz_shs c_1) ?_
    refine gz_icmp_ge (tgt := 37) (pc := 9) dX1_countOfKind_9 rfl (fun c_2 => ?_) (fun c_2 => ?_)
    · have hf := gz_gT hf c_2
      refine gz_iload_n (pc := 37) dX1_countOfKind_37 rfl rfl ?_
      exact gz_irt (pc := 38) dX1_countOfKind_38 rfl rfl hf
    · have hf := gz_gF hf c_2
      refine gz_aload_n (pc := 12) dX1_countOfKind_12 rfl rfl ?_
      refine gz_gb hf (fun r_3 er_3 hf => ?_)
      refine gz_getR (pc := 13) dX1_countOfKind_13 fl_RX1_17 rfl (gz_shs c_1) er_3 ?_
      refine gz_iload_n (pc := 16) dX1_countOfKind_16 rfl rfl ?_
      refine gz_gk hf (fun c_4 hf => ?_)
      refine gz_gb hf (fun r_5 er_5 hf => ?_)
      refine gz_aald (Or.inl rfl) (pc := 17) dX1_countOfKind_17 c_4 er_5 ?_
      refine gz_gk hf (fun c_6 hf => ?_)
      refine gz_getI (pc := 18) dX1_countOfKind_18 fl_RX1_53 rfl (gz_shs c_6) ?_
      refine gz_iload_n (pc := 21) dX1_countOfKind_21 rfl rfl ?_
      refine gz_cSI (av := [.int (h.2.1 r_5 2), .int x1]) (st := []) (pc := 22) dX1_countOfKind_22 kl_RX1_56 rfl rfl (Nat.le_of_ble_eq_true rfl) (by show d + 0 + 0 + 1 ≤ d + 1; omega) (sX8_isOf (d := d + 0) (gz_gc hf)) (fun y_8 h_7 hf => ?_)
      refine gz_if_eq (tgt := 31) (pc := 25) dX1_countOfKind_25 rfl (fun c_9 => ?_) (fun c_9 => ?_)
      · have hf := gz_gT hf c_9
        exact sX1_countOfKind_31 ih a0 x1 x2 x3 h_7 hf
      · have hf := gz_gF hf c_9
        refine gz_iinc (v := x2 + 1) (lv := [.ref a0, .int x1, .int (x2 + 1), .int x3]) (pc := 28) dX1_countOfKind_28 rfl rfl (by decide) rfl ?_
        exact sX1_countOfKind_31 ih a0 x1 (x2 + 1) x3 h_7 hf
def fX1_countOfKind_0  (a0 : Nat) (x1 : Int32) (h : gz_H) : Option (Int32 × gz_H) :=
    fX1_countOfKind_4 gz_fu a0 x1 (0 : Int32) (0 : Int32) h
set_option maxRecDepth 100000 in
set_option maxHeartbeats 1000000 in
theorem sX1_countOfKind_0 {G : gz_G} {d l0 s0 : Nat} {Q : Int32 → gz_H → Prop} (a0 : Nat) (x1 : Int32) (h : gz_H) (hf : gz_g (fX1_countOfKind_0  a0 x1 h) Q) : gz_Ok G mX1_countOfKind (d + 1, l0, s0, 0, 0) 0 [.ref a0, .int x1, .retAddr 0, .retAddr 0] [] h (gz_qi Q) := by
  unfold fX1_countOfKind_0 at hf
  refine gz_iconst (v := (0 : Int32)) (pc := 0) dX1_countOfKind_0 rfl ?_
  refine gz_istore_n (lv := [.ref a0, .int x1, .int (0 : Int32), .retAddr 0]) (pc := 1) dX1_countOfKind_1 rfl (by decide) rfl ?_
  refine gz_iconst (v := (0 : Int32)) (pc := 2) dX1_countOfKind_2 rfl ?_
  refine gz_istore_n (lv := [.ref a0, .int x1, .int (0 : Int32), .int (0 : Int32)]) (pc := 3) dX1_countOfKind_3 rfl (by decide) rfl ?_
  exact sX1_countOfKind_4 gz_fu a0 x1 (0 : Int32) (0 : Int32) h hf
def fX1_countOfKind (a0 : Nat) (x1 : Int32) (h : gz_H) : Option (Int32 × gz_H) := fX1_countOfKind_0 a0 x1 h
theorem sX1_countOfKind {G : gz_G} {d : Nat} {a0 : Nat} {x1 : Int32} {h : gz_H} {Q : Int32 → gz_H → Prop} (hf : gz_g (fX1_countOfKind a0 x1 h) Q) : gz_Cl G mX1_countOfKind (d + 1) 0 0 [.ref a0, .int x1] h (gz_qi Q) := gz_cl_of (lo := [.ref a0, .int x1, .retAddr 0, .retAddr 0]) (by decide) rfl rfl (Nat.le_of_ble_eq_true rfl) (sX1_countOfKind_0 a0 x1 h hf)
theorem dX2_placeInOrder_0 : decode cX2_placeInOrder 0 = .ok (.iconst 0, 1) := by decide +kernel
theorem dX2_placeInOrder_1 : decode cX2_placeInOrder 1 = .ok (.istore_n 2, 1) := by decide +kernel
theorem dX2_placeInOrder_2 : decode cX2_placeInOrder 2 = .ok (.iload_n 2, 1) := by decide +kernel
theorem dX2_placeInOrder_3 : decode cX2_placeInOrder 3 = .ok (.aload_n 0, 1) := by decide +kernel
theorem dX2_placeInOrder_4 : decode cX2_placeInOrder 4 = .ok (.getfield 25, 3) := by decide +kernel
theorem dX2_placeInOrder_7 : decode cX2_placeInOrder 7 = .ok (.if_icmp .ge 21, 3) := by decide +kernel
theorem dX2_placeInOrder_10 : decode cX2_placeInOrder 10 = .ok (.aload_n 0, 1) := by decide +kernel
theorem dX2_placeInOrder_11 : decode cX2_placeInOrder 11 = .ok (.getfield 9, 3) := by decide +kernel
theorem dX2_placeInOrder_14 : decode cX2_placeInOrder 14 = .ok (.iload_n 2, 1) := by decide +kernel
theorem dX2_placeInOrder_15 : decode cX2_placeInOrder 15 = .ok (.iaload, 1) := by decide +kernel
theorem dX2_placeInOrder_16 : decode cX2_placeInOrder 16 = .ok (.iload_n 1, 1) := by decide +kernel
theorem dX2_placeInOrder_17 : decode cX2_placeInOrder 17 = .ok (.if_icmp .ne 5, 3) := by decide +kernel
theorem dX2_placeInOrder_20 : decode cX2_placeInOrder 20 = .ok (.iload_n 2, 1) := by decide +kernel
theorem dX2_placeInOrder_21 : decode cX2_placeInOrder 21 = .ok (.ireturn, 1) := by decide +kernel
theorem dX2_placeInOrder_22 : decode cX2_placeInOrder 22 = .ok (.iinc 2 1, 3) := by decide +kernel
theorem dX2_placeInOrder_25 : decode cX2_placeInOrder 25 = .ok (.goto (-23), 3) := by decide +kernel
theorem dX2_placeInOrder_28 : decode cX2_placeInOrder 28 = .ok (.bipush (-9), 2) := by decide +kernel
theorem dX2_placeInOrder_30 : decode cX2_placeInOrder 30 = .ok (.ireturn, 1) := by decide +kernel
def fX2_placeInOrder_2  : Nat → Nat → Int32 → Int32 → gz_H → Option (Int32 × gz_H)
  | 0, _, _, _, _ => none
  | n + 1, a0, x1, x2, h =>
    gz_ck (gz_sh h a0 2 6) <|
    if (h.2.1 a0 1) ≤ x2 then (
     some ((-9 : Int32), h)
    ) else (
     gz_br (h.2.2.2 a0 0) fun r_3 =>
     gz_ck (gz_inb h r_3 10 x2) <|
     if (h.2.1 r_3 x2.toNatClampNeg) = x1 then (
      some (x2, h)
     ) else (
      fX2_placeInOrder_2 n a0 x1 (x2 + 1) h
     )
    )
set_option maxRecDepth 100000 in
set_option maxHeartbeats 1000000 in
theorem sX2_placeInOrder_2 {G : gz_G} {d l0 s0 : Nat} {Q : Int32 → gz_H → Prop} : ∀ (n : Nat) (a0 : Nat) (x1 : Int32) (x2 : Int32) (h : gz_H), gz_g (fX2_placeInOrder_2  n a0 x1 x2 h) Q → gz_Ok G mX2_placeInOrder (d + 0, l0, s0, 0, 0) 2 [.ref a0, .int x1, .int x2] [] h (gz_qi Q) := by
  intro n
  induction n with
  | zero => intro a0 x1 x2 h hf; exact False.elim hf
  | succ n ih =>
    intro a0 x1 x2 h hf
    rw [fX2_placeInOrder_2] at hf
    refine gz_iload_n (pc := 2) dX2_placeInOrder_2 rfl rfl ?_
    refine gz_aload_n (pc := 3) dX2_placeInOrder_3 rfl rfl ?_
    refine gz_gk hf (fun c_1 hf => ?_)
    refine gz_getI (pc := 4) dX2_placeInOrder_4 fl_RX2_25 rfl (gz_shs c_1) ?_
    refine gz_icmp_ge (tgt := 28) (pc := 7) dX2_placeInOrder_7 rfl (fun c_2 => ?_) (fun c_2 => ?_)
    · have hf := gz_gT hf c_2
      refine gz_bipush (v := (-9 : Int32)) (pc := 28) dX2_placeInOrder_28 rfl ?_
      exact gz_irt (pc := 30) dX2_placeInOrder_30 rfl rfl hf
    · have hf := gz_gF hf c_2
      refine gz_aload_n (pc := 10) dX2_placeInOrder_10 rfl rfl ?_
      refine gz_gb hf (fun r_3 er_3 hf => ?_)
      refine gz_getR (pc := 11) dX2_placeInOrder_11 fl_RX2_9 rfl (gz_shs c_1) er_3 ?_
      refine gz_iload_n (pc := 14) dX2_placeInOrder_14 rfl rfl ?_
      refine gz_gk hf (fun c_4 hf => ?_)
      refine gz_iald (pc := 15) dX2_placeInOrder_15 c_4 ?_
      refine gz_iload_n (pc := 16) dX2_placeInOrder_16 rfl rfl ?_
      refine gz_icmp_ne (tgt := 22) (pc := 17) dX2_placeInOrder_17 rfl (fun c_5 => ?_) (fun c_5 => ?_)
      · have hf := gz_gF hf c_5
        refine gz_iinc (v := x2 + 1) (lv := [.ref a0, .int x1, .int (x2 + 1)]) (pc := 22) dX2_placeInOrder_22 rfl rfl (by decide) rfl ?_
        refine gz_goto (tgt := 2) (pc := 25) dX2_placeInOrder_25 rfl ?_
        exact ih a0 x1 (x2 + 1) h hf
      · have hf := gz_gT hf c_5
        refine gz_iload_n (pc := 20) dX2_placeInOrder_20 rfl rfl ?_
        exact gz_irt (pc := 21) dX2_placeInOrder_21 rfl rfl hf
def fX2_placeInOrder_0  (a0 : Nat) (x1 : Int32) (h : gz_H) : Option (Int32 × gz_H) :=
    fX2_placeInOrder_2 gz_fu a0 x1 (0 : Int32) h
set_option maxRecDepth 100000 in
set_option maxHeartbeats 1000000 in
theorem sX2_placeInOrder_0 {G : gz_G} {d l0 s0 : Nat} {Q : Int32 → gz_H → Prop} (a0 : Nat) (x1 : Int32) (h : gz_H) (hf : gz_g (fX2_placeInOrder_0  a0 x1 h) Q) : gz_Ok G mX2_placeInOrder (d + 0, l0, s0, 0, 0) 0 [.ref a0, .int x1, .retAddr 0] [] h (gz_qi Q) := by
  unfold fX2_placeInOrder_0 at hf
  refine gz_iconst (v := (0 : Int32)) (pc := 0) dX2_placeInOrder_0 rfl ?_
  refine gz_istore_n (lv := [.ref a0, .int x1, .int (0 : Int32)]) (pc := 1) dX2_placeInOrder_1 rfl (by decide) rfl ?_
  exact sX2_placeInOrder_2 gz_fu a0 x1 (0 : Int32) h hf
def fX2_placeInOrder (a0 : Nat) (x1 : Int32) (h : gz_H) : Option (Int32 × gz_H) := fX2_placeInOrder_0 a0 x1 h
theorem sX2_placeInOrder {G : gz_G} {d : Nat} {a0 : Nat} {x1 : Int32} {h : gz_H} {Q : Int32 → gz_H → Prop} (hf : gz_g (fX2_placeInOrder a0 x1 h) Q) : gz_Cl G mX2_placeInOrder (d + 0) 0 0 [.ref a0, .int x1] h (gz_qi Q) := gz_cl_of (lo := [.ref a0, .int x1, .retAddr 0]) (by decide) rfl rfl (Nat.le_of_ble_eq_true rfl) (sX2_placeInOrder_0 a0 x1 h hf)
theorem dX2_removeAt_0 : decode cX2_removeAt 0 = .ok (.iload_n 1, 1) := by decide +kernel
theorem dX2_removeAt_1 : decode cX2_removeAt 1 = .ok (.ifCond .lt 11, 3) := by decide +kernel
theorem dX2_removeAt_4 : decode cX2_removeAt 4 = .ok (.iload_n 1, 1) := by decide +kernel
theorem dX2_removeAt_5 : decode cX2_removeAt 5 = .ok (.aload_n 0, 1) := by decide +kernel
theorem dX2_removeAt_6 : decode cX2_removeAt 6 = .ok (.getfield 25, 3) := by decide +kernel
theorem dX2_removeAt_9 : decode cX2_removeAt 9 = .ok (.if_icmp .lt 4, 3) := by decide +kernel
theorem dX2_removeAt_12 : decode cX2_removeAt 12 = .ok (.return_, 1) := by decide +kernel
theorem dX2_removeAt_13 : decode cX2_removeAt 13 = .ok (.iload_n 1, 1) := by decide +kernel
theorem dX2_removeAt_14 : decode cX2_removeAt 14 = .ok (.istore_n 2, 1) := by decide +kernel
theorem dX2_removeAt_15 : decode cX2_removeAt 15 = .ok (.iload_n 2, 1) := by decide +kernel
theorem dX2_removeAt_16 : decode cX2_removeAt 16 = .ok (.iconst 1, 1) := by decide +kernel
theorem dX2_removeAt_17 : decode cX2_removeAt 17 = .ok (.iadd, 1) := by decide +kernel
theorem dX2_removeAt_18 : decode cX2_removeAt 18 = .ok (.aload_n 0, 1) := by decide +kernel
theorem dX2_removeAt_19 : decode cX2_removeAt 19 = .ok (.getfield 25, 3) := by decide +kernel
theorem dX2_removeAt_22 : decode cX2_removeAt 22 = .ok (.if_icmp .ge 23, 3) := by decide +kernel
theorem dX2_removeAt_25 : decode cX2_removeAt 25 = .ok (.aload_n 0, 1) := by decide +kernel
theorem dX2_removeAt_26 : decode cX2_removeAt 26 = .ok (.getfield 9, 3) := by decide +kernel
theorem dX2_removeAt_29 : decode cX2_removeAt 29 = .ok (.iload_n 2, 1) := by decide +kernel
theorem dX2_removeAt_30 : decode cX2_removeAt 30 = .ok (.aload_n 0, 1) := by decide +kernel
theorem dX2_removeAt_31 : decode cX2_removeAt 31 = .ok (.getfield 9, 3) := by decide +kernel
theorem dX2_removeAt_34 : decode cX2_removeAt 34 = .ok (.iload_n 2, 1) := by decide +kernel
theorem dX2_removeAt_35 : decode cX2_removeAt 35 = .ok (.iconst 1, 1) := by decide +kernel
theorem dX2_removeAt_36 : decode cX2_removeAt 36 = .ok (.iadd, 1) := by decide +kernel
theorem dX2_removeAt_37 : decode cX2_removeAt 37 = .ok (.iaload, 1) := by decide +kernel
theorem dX2_removeAt_38 : decode cX2_removeAt 38 = .ok (.iastore, 1) := by decide +kernel
theorem dX2_removeAt_39 : decode cX2_removeAt 39 = .ok (.iinc 2 1, 3) := by decide +kernel
theorem dX2_removeAt_42 : decode cX2_removeAt 42 = .ok (.goto (-27), 3) := by decide +kernel
theorem dX2_removeAt_45 : decode cX2_removeAt 45 = .ok (.aload_n 0, 1) := by decide +kernel
theorem dX2_removeAt_46 : decode cX2_removeAt 46 = .ok (.dup, 1) := by decide +kernel
theorem dX2_removeAt_47 : decode cX2_removeAt 47 = .ok (.getfield 25, 3) := by decide +kernel
theorem dX2_removeAt_50 : decode cX2_removeAt 50 = .ok (.iconst 1, 1) := by decide +kernel
theorem dX2_removeAt_51 : decode cX2_removeAt 51 = .ok (.isub, 1) := by decide +kernel
theorem dX2_removeAt_52 : decode cX2_removeAt 52 = .ok (.putfield 25, 3) := by decide +kernel
theorem dX2_removeAt_55 : decode cX2_removeAt 55 = .ok (.return_, 1) := by decide +kernel
def fX2_removeAt_15  : Nat → Nat → Int32 → gz_H → Option (Unit × gz_H)
  | 0, _, _, _ => none
  | n + 1, a0, x2, h =>
    gz_ck (gz_sh h a0 2 6) <|
    if (h.2.1 a0 1) ≤ (x2 + (1 : Int32)) then (
     gz_lt (uI h a0 1 ((h.2.1 a0 1) - (1 : Int32))) fun h_3 =>
     some ((), h_3)
    ) else (
     gz_br (h.2.2.2 a0 0) fun r_4 =>
     gz_ck (gz_inb h r_4 10 (x2 + (1 : Int32))) <|
     gz_ck (gz_inb h r_4 10 x2) <|
     gz_lt (uI h r_4 x2.toNatClampNeg (h.2.1 r_4 (x2 + (1 : Int32)).toNatClampNeg)) fun h_7 =>
     fX2_removeAt_15 n a0 (x2 + 1) h_7
    )
set_option maxRecDepth 100000 in
set_option maxHeartbeats 1000000 in
theorem sX2_removeAt_15 {G : gz_G} {d l0 s0 : Nat} {Q : Unit → gz_H → Prop} : ∀ (n : Nat) (a0 : Nat) (x2 : Int32) (h : gz_H), gz_g (fX2_removeAt_15  n a0 x2 h) Q → gz_Ok G mX2_removeAt (d + 0, l0, s0, 0, 0) 15 [.ref a0, .retAddr 0, .int x2] [] h (gz_qu Q) := by
  intro n
  induction n with
  | zero => intro a0 x2 h hf; exact False.elim hf
  | succ n ih =>
    intro a0 x2 h hf
    rw [fX2_removeAt_15] at hf
    refine gz_iload_n (pc := 15) dX2_removeAt_15 rfl rfl ?_
    refine gz_iconst (v := (1 : Int32)) (pc := 16) dX2_removeAt_16 rfl ?_
    refine gz_iadd (pc := 17) dX2_removeAt_17 ?_
    refine gz_aload_n (pc := 18) dX2_removeAt_18 rfl rfl ?_
    refine gz_gk hf (fun c_1 hf => ?_)
    refine gz_getI (pc := 19) dX2_removeAt_19 fl_RX2_25 rfl (gz_shs c_1) ?_
    refine gz_icmp_ge (tgt := 45) (pc := 22) dX2_removeAt_22 rfl (fun c_2 => ?_) (fun c_2 => ?_)
    · have hf := gz_gT hf c_2
      refine gz_aload_n (pc := 45) dX2_removeAt_45 rfl rfl ?_
      refine gz_dup (pc := 46) dX2_removeAt_46 rfl ?_
      refine gz_getI (pc := 47) dX2_removeAt_47 fl_RX2_25 rfl (gz_shs c_1) ?_
      refine gz_iconst (v := (1 : Int32)) (pc := 50) dX2_removeAt_50 rfl ?_
      refine gz_isub (pc := 51) dX2_removeAt_51 ?_
      refine gz_putI (pc := 52) dX2_removeAt_52 fw_X2_removeAt_25 rfl rfl rfl (gz_shs c_1) ?_
      refine gz_nmH (fun h_3 eh_3 => ?_)
      have hf := gz_gl eh_3 hf
      exact gz_uret (pc := 55) dX2_removeAt_55 rfl hf
    · have hf := gz_gF hf c_2
      refine gz_aload_n (pc := 25) dX2_removeAt_25 rfl rfl ?_
      refine gz_gb hf (fun r_4 er_4 hf => ?_)
      refine gz_getR (pc := 26) dX2_removeAt_26 fl_RX2_9 rfl (gz_shs c_1) er_4 ?_
      refine gz_iload_n (pc := 29) dX2_removeAt_29 rfl rfl ?_
      refine gz_aload_n (pc := 30) dX2_removeAt_30 rfl rfl ?_
      refine gz_getR (pc := 31) dX2_removeAt_31 fl_RX2_9 rfl (gz_shs c_1) er_4 ?_
      refine gz_iload_n (pc := 34) dX2_removeAt_34 rfl rfl ?_
      refine gz_iconst (v := (1 : Int32)) (pc := 35) dX2_removeAt_35 rfl ?_
      refine gz_iadd (pc := 36) dX2_removeAt_36 ?_
      refine gz_gk hf (fun c_5 hf => ?_)
      refine gz_iald (pc := 37) dX2_removeAt_37 c_5 ?_
      refine gz_gk hf (fun c_6 hf => ?_)
      refine gz_iast (pc := 38) dX2_removeAt_38 c_6 ?_
      refine gz_nmH (fun h_7 eh_7 => ?_)
      have hf := gz_gl eh_7 hf
      refine gz_iinc (v := x2 + 1) (lv := [.ref a0, .retAddr 0, .int (x2 + 1)]) (pc := 39) dX2_removeAt_39 rfl rfl (by decide) rfl ?_
      refine gz_goto (tgt := 15) (pc := 42) dX2_removeAt_42 rfl ?_
      exact ih a0 (x2 + 1) h_7 hf
def fX2_removeAt_0  (a0 : Nat) (x1 : Int32) (h : gz_H) : Option (Unit × gz_H) :=
    if x1 < 0 then (
     some ((), h)
    ) else (
     gz_ck (gz_sh h a0 2 6) <|
     if x1 < (h.2.1 a0 1) then (
      fX2_removeAt_15 gz_fu a0 x1 h
     ) else (
      some ((), h)
     )
    )
set_option maxRecDepth 100000 in
set_option maxHeartbeats 1000000 in
theorem sX2_removeAt_0 {G : gz_G} {d l0 s0 : Nat} {Q : Unit → gz_H → Prop} (a0 : Nat) (x1 : Int32) (h : gz_H) (hf : gz_g (fX2_removeAt_0  a0 x1 h) Q) : gz_Ok G mX2_removeAt (d + 0, l0, s0, 0, 0) 0 [.ref a0, .int x1, .retAddr 0] [] h (gz_qu Q) := by
  unfold fX2_removeAt_0 at hf
  refine gz_iload_n (pc := 0) dX2_removeAt_0 rfl rfl ?_
  refine gz_if_lt (tgt := 12) (pc := 1) dX2_removeAt_1 rfl (fun c_1 => ?_) (fun c_1 => ?_)
  · have hf := gz_gT hf c_1
    exact gz_uret (pc := 12) dX2_removeAt_12 rfl hf
  · have hf := gz_gF hf c_1
    refine gz_iload_n (pc := 4) dX2_removeAt_4 rfl rfl ?_
    refine gz_aload_n (pc := 5) dX2_removeAt_5 rfl rfl ?_
    refine gz_gk hf (fun c_2 hf => ?_)
    refine gz_getI (pc := 6) dX2_removeAt_6 fl_RX2_25 rfl (gz_shs c_2) ?_
    refine gz_icmp_lt (tgt := 13) (pc := 9) dX2_removeAt_9 rfl (fun c_3 => ?_) (fun c_3 => ?_)
    · have hf := gz_gT hf c_3
      refine gz_iload_n (pc := 13) dX2_removeAt_13 rfl rfl ?_
      refine gz_istore_n (lv := [.ref a0, .int x1, .int x1]) (pc := 14) dX2_removeAt_14 rfl (by decide) rfl ?_
      refine gz_fg (lv := [.ref a0, .retAddr 0, .int x1]) ⟨Or.inr rfl, ⟨Or.inl rfl, ⟨Or.inr rfl, trivial⟩⟩⟩ ?_
      exact sX2_removeAt_15 gz_fu a0 x1 h hf
    · have hf := gz_gF hf c_3
      exact gz_uret (pc := 12) dX2_removeAt_12 rfl hf
def fX2_removeAt (a0 : Nat) (x1 : Int32) (h : gz_H) : Option (Unit × gz_H) := fX2_removeAt_0 a0 x1 h
theorem sX2_removeAt {G : gz_G} {d : Nat} {a0 : Nat} {x1 : Int32} {h : gz_H} {Q : Unit → gz_H → Prop} (hf : gz_g (fX2_removeAt a0 x1 h) Q) : gz_Cl G mX2_removeAt (d + 0) 0 0 [.ref a0, .int x1] h (gz_qu Q) := gz_cl_of (lo := [.ref a0, .int x1, .retAddr 0]) (by decide) rfl rfl (Nat.le_of_ble_eq_true rfl) (sX2_removeAt_0 a0 x1 h hf)
theorem dX2_isFilled_0 : decode cX2_isFilled 0 = .ok (.aload_n 0, 1) := by decide +kernel
theorem dX2_isFilled_1 : decode cX2_isFilled 1 = .ok (.getfield 25, 3) := by decide +kernel
theorem dX2_isFilled_4 : decode cX2_isFilled 4 = .ok (.aload_n 0, 1) := by decide +kernel
theorem dX2_isFilled_5 : decode cX2_isFilled 5 = .ok (.getfield 19, 3) := by decide +kernel
theorem dX2_isFilled_8 : decode cX2_isFilled 8 = .ok (.if_icmp .lt 7, 3) := by decide +kernel
theorem dX2_isFilled_11 : decode cX2_isFilled 11 = .ok (.iconst 1, 1) := by decide +kernel
theorem dX2_isFilled_12 : decode cX2_isFilled 12 = .ok (.goto 4, 3) := by decide +kernel
theorem dX2_isFilled_15 : decode cX2_isFilled 15 = .ok (.iconst 0, 1) := by decide +kernel
theorem dX2_isFilled_16 : decode cX2_isFilled 16 = .ok (.ireturn, 1) := by decide +kernel
def fX2_isFilled_0  (a0 : Nat) (h : gz_H) : Option (Int32 × gz_H) :=
    gz_ck (gz_sh h a0 2 6) <|
    if (h.2.1 a0 1) < (h.2.1 a0 3) then (
     some ((0 : Int32), h)
    ) else (
     some ((1 : Int32), h)
    )
set_option maxRecDepth 100000 in
set_option maxHeartbeats 1000000 in
theorem sX2_isFilled_0 {G : gz_G} {d l0 s0 : Nat} {Q : Int32 → gz_H → Prop} (a0 : Nat) (h : gz_H) (hf : gz_g (fX2_isFilled_0  a0 h) Q) : gz_Ok G mX2_isFilled (d + 0, l0, s0, 0, 0) 0 [.ref a0] [] h (gz_qi Q) := by
  unfold fX2_isFilled_0 at hf
  refine gz_aload_n (pc := 0) dX2_isFilled_0 rfl rfl ?_
  refine gz_gk hf (fun c_1 hf => ?_)
  refine gz_getI (pc := 1) dX2_isFilled_1 fl_RX2_25 rfl (gz_shs c_1) ?_
  refine gz_aload_n (pc := 4) dX2_isFilled_4 rfl rfl ?_
  refine gz_getI (pc := 5) dX2_isFilled_5 fl_RX2_19 rfl (gz_shs c_1) ?_
  refine gz_icmp_lt (tgt := 15) (pc := 8) dX2_isFilled_8 rfl (fun c_2 => ?_) (fun c_2 => ?_)
  · have hf := gz_gT hf c_2
    refine gz_iconst (v := (0 : Int32)) (pc := 15) dX2_isFilled_15 rfl ?_
    exact gz_irt (pc := 16) dX2_isFilled_16 rfl rfl hf
  · have hf := gz_gF hf c_2
    refine gz_iconst (v := (1 : Int32)) (pc := 11) dX2_isFilled_11 rfl ?_
    refine gz_goto (tgt := 16) (pc := 12) dX2_isFilled_12 rfl ?_
    exact gz_irt (pc := 16) dX2_isFilled_16 rfl rfl hf
def fX2_isFilled (a0 : Nat) (h : gz_H) : Option (Int32 × gz_H) := fX2_isFilled_0 a0 h
theorem sX2_isFilled {G : gz_G} {d : Nat} {a0 : Nat} {h : gz_H} {Q : Int32 → gz_H → Prop} (hf : gz_g (fX2_isFilled a0 h) Q) : gz_Cl G mX2_isFilled (d + 0) 0 0 [.ref a0] h (gz_qi Q) := gz_cl_of (lo := [.ref a0]) (by decide) rfl rfl (Nat.le_of_ble_eq_true rfl) (sX2_isFilled_0 a0 h hf)
theorem dX2_oldest_0 : decode cX2_oldest 0 = .ok (.aload_n 0, 1) := by decide +kernel
theorem dX2_oldest_1 : decode cX2_oldest 1 = .ok (.getfield 25, 3) := by decide +kernel
theorem dX2_oldest_4 : decode cX2_oldest 4 = .ok (.ifCond .le 12, 3) := by decide +kernel
theorem dX2_oldest_7 : decode cX2_oldest 7 = .ok (.aload_n 0, 1) := by decide +kernel
theorem dX2_oldest_8 : decode cX2_oldest 8 = .ok (.getfield 9, 3) := by decide +kernel
theorem dX2_oldest_11 : decode cX2_oldest 11 = .ok (.iconst 0, 1) := by decide +kernel
theorem dX2_oldest_12 : decode cX2_oldest 12 = .ok (.iaload, 1) := by decide +kernel
theorem dX2_oldest_13 : decode cX2_oldest 13 = .ok (.goto 5, 3) := by decide +kernel
theorem dX2_oldest_16 : decode cX2_oldest 16 = .ok (.bipush (-9), 2) := by decide +kernel
theorem dX2_oldest_18 : decode cX2_oldest 18 = .ok (.ireturn, 1) := by decide +kernel
def fX2_oldest_0  (a0 : Nat) (h : gz_H) : Option (Int32 × gz_H) :=
    gz_ck (gz_sh h a0 2 6) <|
    if (h.2.1 a0 1) ≤ 0 then (
     some ((-9 : Int32), h)
    ) else (
     gz_br (h.2.2.2 a0 0) fun r_3 =>
     gz_ck (gz_inb h r_3 10 (0 : Int32)) <|
     some (h.2.1 r_3 (0 : Int32).toNatClampNeg, h)
    )
set_option maxRecDepth 100000 in
set_option maxHeartbeats 1000000 in
theorem sX2_oldest_0 {G : gz_G} {d l0 s0 : Nat} {Q : Int32 → gz_H → Prop} (a0 : Nat) (h : gz_H) (hf : gz_g (fX2_oldest_0  a0 h) Q) : gz_Ok G mX2_oldest (d + 0, l0, s0, 0, 0) 0 [.ref a0] [] h (gz_qi Q) := by
  unfold fX2_oldest_0 at hf
  refine gz_aload_n (pc := 0) dX2_oldest_0 rfl rfl ?_
  refine gz_gk hf (fun c_1 hf => ?_)
  refine gz_getI (pc := 1) dX2_oldest_1 fl_RX2_25 rfl (gz_shs c_1) ?_
  refine gz_if_le (tgt := 16) (pc := 4) dX2_oldest_4 rfl (fun c_2 => ?_) (fun c_2 => ?_)
  · have hf := gz_gT hf c_2
    refine gz_bipush (v := (-9 : Int32)) (pc := 16) dX2_oldest_16 rfl ?_
    exact gz_irt (pc := 18) dX2_oldest_18 rfl rfl hf
  · have hf := gz_gF hf c_2
    refine gz_aload_n (pc := 7) dX2_oldest_7 rfl rfl ?_
    refine gz_gb hf (fun r_3 er_3 hf => ?_)
    refine gz_getR (pc := 8) dX2_oldest_8 fl_RX2_9 rfl (gz_shs c_1) er_3 ?_
    refine gz_iconst (v := (0 : Int32)) (pc := 11) dX2_oldest_11 rfl ?_
    refine gz_gk hf (fun c_4 hf => ?_)
    refine gz_iald (pc := 12) dX2_oldest_12 c_4 ?_
    refine gz_goto (tgt := 18) (pc := 13) dX2_oldest_13 rfl ?_
    exact gz_irt (pc := 18) dX2_oldest_18 rfl rfl hf
def fX2_oldest (a0 : Nat) (h : gz_H) : Option (Int32 × gz_H) := fX2_oldest_0 a0 h
theorem sX2_oldest {G : gz_G} {d : Nat} {a0 : Nat} {h : gz_H} {Q : Int32 → gz_H → Prop} (hf : gz_g (fX2_oldest a0 h) Q) : gz_Cl G mX2_oldest (d + 0) 0 0 [.ref a0] h (gz_qi Q) := gz_cl_of (lo := [.ref a0]) (by decide) rfl rfl (Nat.le_of_ble_eq_true rfl) (sX2_oldest_0 a0 h hf)
theorem dX2_take_0 : decode cX2_take 0 = .ok (.bipush (-9), 2) := by decide +kernel
theorem dX2_take_2 : decode cX2_take 2 = .ok (.istore_n 2, 1) := by decide +kernel
theorem dX2_take_3 : decode cX2_take 3 = .ok (.aload_n 0, 1) := by decide +kernel
theorem dX2_take_4 : decode cX2_take 4 = .ok (.iload_n 1, 1) := by decide +kernel
theorem dX2_take_5 : decode cX2_take 5 = .ok (.invokevirtual 42, 3) := by decide +kernel
theorem dX2_take_8 : decode cX2_take 8 = .ok (.istore_n 3, 1) := by decide +kernel
theorem dX2_take_9 : decode cX2_take 9 = .ok (.iload_n 3, 1) := by decide +kernel
theorem dX2_take_10 : decode cX2_take 10 = .ok (.bipush (-9), 2) := by decide +kernel
theorem dX2_take_12 : decode cX2_take 12 = .ok (.if_icmp .eq 11, 3) := by decide +kernel
theorem dX2_take_15 : decode cX2_take 15 = .ok (.aload_n 0, 1) := by decide +kernel
theorem dX2_take_16 : decode cX2_take 16 = .ok (.iload_n 3, 1) := by decide +kernel
theorem dX2_take_17 : decode cX2_take 17 = .ok (.invokevirtual 56, 3) := by decide +kernel
theorem dX2_take_20 : decode cX2_take 20 = .ok (.goto 20, 3) := by decide +kernel
theorem dX2_take_23 : decode cX2_take 23 = .ok (.aload_n 0, 1) := by decide +kernel
theorem dX2_take_24 : decode cX2_take 24 = .ok (.invokevirtual 60, 3) := by decide +kernel
theorem dX2_take_27 : decode cX2_take 27 = .ok (.ifCond .eq 13, 3) := by decide +kernel
theorem dX2_take_30 : decode cX2_take 30 = .ok (.aload_n 0, 1) := by decide +kernel
theorem dX2_take_31 : decode cX2_take 31 = .ok (.invokevirtual 53, 3) := by decide +kernel
theorem dX2_take_34 : decode cX2_take 34 = .ok (.istore_n 2, 1) := by decide +kernel
theorem dX2_take_35 : decode cX2_take 35 = .ok (.aload_n 0, 1) := by decide +kernel
theorem dX2_take_36 : decode cX2_take 36 = .ok (.iconst 0, 1) := by decide +kernel
theorem dX2_take_37 : decode cX2_take 37 = .ok (.invokevirtual 56, 3) := by decide +kernel
theorem dX2_take_40 : decode cX2_take 40 = .ok (.aload_n 0, 1) := by decide +kernel
theorem dX2_take_41 : decode cX2_take 41 = .ok (.getfield 25, 3) := by decide +kernel
theorem dX2_take_44 : decode cX2_take 44 = .ok (.bipush 8, 2) := by decide +kernel
theorem dX2_take_46 : decode cX2_take 46 = .ok (.if_icmp .ge 20, 3) := by decide +kernel
theorem dX2_take_49 : decode cX2_take 49 = .ok (.aload_n 0, 1) := by decide +kernel
theorem dX2_take_50 : decode cX2_take 50 = .ok (.getfield 9, 3) := by decide +kernel
theorem dX2_take_53 : decode cX2_take 53 = .ok (.aload_n 0, 1) := by decide +kernel
theorem dX2_take_54 : decode cX2_take 54 = .ok (.dup, 1) := by decide +kernel
theorem dX2_take_55 : decode cX2_take 55 = .ok (.getfield 25, 3) := by decide +kernel
theorem dX2_take_58 : decode cX2_take 58 = .ok (.dup_x1, 1) := by decide +kernel
theorem dX2_take_59 : decode cX2_take 59 = .ok (.iconst 1, 1) := by decide +kernel
theorem dX2_take_60 : decode cX2_take 60 = .ok (.iadd, 1) := by decide +kernel
theorem dX2_take_61 : decode cX2_take 61 = .ok (.putfield 25, 3) := by decide +kernel
theorem dX2_take_64 : decode cX2_take 64 = .ok (.iload_n 1, 1) := by decide +kernel
theorem dX2_take_65 : decode cX2_take 65 = .ok (.iastore, 1) := by decide +kernel
theorem dX2_take_66 : decode cX2_take 66 = .ok (.iload_n 2, 1) := by decide +kernel
theorem dX2_take_67 : decode cX2_take 67 = .ok (.ireturn, 1) := by decide +kernel
def fX2_take_40  (a0 : Nat) (x1 : Int32) (x2 : Int32) (h : gz_H) : Option (Int32 × gz_H) :=
    gz_ck (gz_sh h a0 2 6) <|
    if (8 : Int32) ≤ (h.2.1 a0 1) then (
     some (x2, h)
    ) else (
     gz_br (h.2.2.2 a0 0) fun r_3 =>
     gz_lt (uI h a0 1 ((h.2.1 a0 1) + (1 : Int32))) fun h_4 =>
     gz_ck (gz_inb h_4 r_3 10 (h.2.1 a0 1)) <|
     gz_lt (uI h_4 r_3 (h.2.1 a0 1).toNatClampNeg x1) fun h_6 =>
     some (x2, h_6)
    )
set_option maxRecDepth 100000 in
set_option maxHeartbeats 1000000 in
theorem sX2_take_40 {G : gz_G} {d l0 s0 : Nat} {Q : Int32 → gz_H → Prop} (a0 : Nat) (x1 : Int32) (x2 : Int32) (h : gz_H) (hf : gz_g (fX2_take_40  a0 x1 x2 h) Q) : gz_Ok G mX2_take (d + 1, l0, s0, 0, 0) 40 [.ref a0, .int x1, .int x2, .retAddr 0] [] h (gz_qi Q) := by
  unfold fX2_take_40 at hf
  refine gz_aload_n (pc := 40) dX2_take_40 rfl rfl ?_
  refine gz_gk hf (fun c_1 hf => ?_)
  refine gz_getI (pc := 41) dX2_take_41 fl_RX2_25 rfl (gz_shs c_1) ?_
  refine gz_bipush (v := (8 : Int32)) (pc := 44) dX2_take_44 rfl ?_
  refine gz_icmp_ge (tgt := 66) (pc := 46) dX2_take_46 rfl (fun c_2 => ?_) (fun c_2 => ?_)
  · have hf := gz_gT hf c_2
    refine gz_iload_n (pc := 66) dX2_take_66 rfl rfl ?_
    exact gz_irt (pc := 67) dX2_take_67 rfl rfl hf
  · have hf := gz_gF hf c_2
    refine gz_aload_n (pc := 49) dX2_take_49 rfl rfl ?_
    refine gz_gb hf (fun r_3 er_3 hf => ?_)
    refine gz_getR (pc := 50) dX2_take_50 fl_RX2_9 rfl (gz_shs c_1) er_3 ?_
    refine gz_aload_n (pc := 53) dX2_take_53 rfl rfl ?_
    refine gz_dup (pc := 54) dX2_take_54 rfl ?_
    refine gz_getI (pc := 55) dX2_take_55 fl_RX2_25 rfl (gz_shs c_1) ?_
    refine gz_dup_x1 (pc := 58) dX2_take_58 rfl rfl ?_
    refine gz_iconst (v := (1 : Int32)) (pc := 59) dX2_take_59 rfl ?_
    refine gz_iadd (pc := 60) dX2_take_60 ?_
    refine gz_putI (pc := 61) dX2_take_61 fw_X2_take_25 rfl rfl rfl (gz_shs c_1) ?_
    refine gz_nmH (fun h_4 eh_4 => ?_)
    have hf := gz_gl eh_4 hf
    refine gz_iload_n (pc := 64) dX2_take_64 rfl rfl ?_
    refine gz_gk hf (fun c_5 hf => ?_)
    refine gz_iast (pc := 65) dX2_take_65 c_5 ?_
    refine gz_nmH (fun h_6 eh_6 => ?_)
    have hf := gz_gl eh_6 hf
    refine gz_iload_n (pc := 66) dX2_take_66 rfl rfl ?_
    exact gz_irt (pc := 67) dX2_take_67 rfl rfl hf
def fX2_take_0  (a0 : Nat) (x1 : Int32) (h : gz_H) : Option (Int32 × gz_H) :=
    gz_ck (gz_sh h a0 2 6) <|
    gz_b2 (fX2_placeInOrder a0 x1 h) fun y_2 h_1 =>
    if y_2 = (-9 : Int32) then (
     gz_ck (gz_sh h_1 a0 2 6) <|
     gz_b2 (fX2_isFilled a0 h_1) fun y_6 h_5 =>
     if y_6 = 0 then (
      fX2_take_40 a0 x1 (-9 : Int32) h_5
     ) else (
      gz_ck (gz_sh h_5 a0 2 6) <|
      gz_b2 (fX2_oldest a0 h_5) fun y_10 h_9 =>
      gz_ck (gz_sh h_9 a0 2 6) <|
      gz_b2 (fX2_removeAt a0 (0 : Int32) h_9) fun _ h_12 =>
      fX2_take_40 a0 x1 y_10 h_12
     )
    ) else (
     gz_ck (gz_sh h_1 a0 2 6) <|
     gz_b2 (fX2_removeAt a0 y_2 h_1) fun _ h_15 =>
     fX2_take_40 a0 x1 (-9 : Int32) h_15
    )
set_option maxRecDepth 100000 in
set_option maxHeartbeats 1000000 in
theorem sX2_take_0 {G : gz_G} {d l0 s0 : Nat} {Q : Int32 → gz_H → Prop} (a0 : Nat) (x1 : Int32) (h : gz_H) (hf : gz_g (fX2_take_0  a0 x1 h) Q) : gz_Ok G mX2_take (d + 1, l0, s0, 0, 0) 0 [.ref a0, .int x1, .retAddr 0, .retAddr 0] [] h (gz_qi Q) := by
  unfold fX2_take_0 at hf
  refine gz_bipush (v := (-9 : Int32)) (pc := 0) dX2_take_0 rfl ?_
  refine gz_istore_n (lv := [.ref a0, .int x1, .int (-9 : Int32), .retAddr 0]) (pc := 2) dX2_take_2 rfl (by decide) rfl ?_
  refine gz_aload_n (pc := 3) dX2_take_3 rfl rfl ?_
  refine gz_iload_n (pc := 4) dX2_take_4 rfl rfl ?_
  refine gz_gk hf (fun c_3 hf => ?_)
  refine gz_cVI (av := [.int x1]) (st := []) (pc := 5) dX2_take_5 kl_RX2_42 rfl (gz_shs c_3) rfl rfl (Nat.le_of_ble_eq_true rfl) (by show d + 0 + 0 + 1 ≤ d + 1; omega) (sX2_placeInOrder (d := d + 0) (gz_gc hf)) (fun y_2 h_1 hf => ?_)
  refine gz_istore_n (lv := [.ref a0, .int x1, .int (-9 : Int32), .int y_2]) (pc := 8) dX2_take_8 rfl (by decide) rfl ?_
  refine gz_iload_n (pc := 9) dX2_take_9 rfl rfl ?_
  refine gz_bipush (v := (-9 : Int32)) (pc := 10) dX2_take_10 rfl ?_
  refine gz_icmp_eq (tgt := 23) (pc := 12) dX2_take_12 rfl (fun c_4 => ?_) (fun c_4 => ?_)
  · have hf := gz_gT hf c_4
    refine gz_aload_n (pc := 23) dX2_take_23 rfl rfl ?_
    refine gz_gk hf (fun c_7 hf => ?_)
    refine gz_cVI (av := []) (st := []) (pc := 24) dX2_take_24 kl_RX2_60 rfl (gz_shs c_7) rfl rfl (Nat.le_of_ble_eq_true rfl) (by show d + 0 + 0 + 1 ≤ d + 1; omega) (sX2_isFilled (d := d + 0) (gz_gc hf)) (fun y_6 h_5 hf => ?_)
    refine gz_if_eq (tgt := 40) (pc := 27) dX2_take_27 rfl (fun c_8 => ?_) (fun c_8 => ?_)
    · have hf := gz_gT hf c_8
      refine gz_fg (lv := [.ref a0, .int x1, .int (-9 : Int32), .retAddr 0]) ⟨Or.inr rfl, ⟨Or.inr rfl, ⟨Or.inr rfl, ⟨Or.inl rfl, trivial⟩⟩⟩⟩ ?_
      exact sX2_take_40 a0 x1 (-9 : Int32) h_5 hf
    · have hf := gz_gF hf c_8
      refine gz_aload_n (pc := 30) dX2_take_30 rfl rfl ?_
      refine gz_gk hf (fun c_11 hf => ?_)
      refine gz_cVI (av := []) (st := []) (pc := 31) dX2_take_31 kl_RX2_53 rfl (gz_shs c_11) rfl rfl (Nat.le_of_ble_eq_true rfl) (by show d + 0 + 0 + 1 ≤ d + 1; omega) (sX2_oldest (d := d + 0) (gz_gc hf)) (fun y_10 h_9 hf => ?_)
      refine gz_istore_n (lv := [.ref a0, .int x1, .int y_10, .int y_2]) (pc := 34) dX2_take_34 rfl (by decide) rfl ?_
      refine gz_aload_n (pc := 35) dX2_take_35 rfl rfl ?_
      refine gz_iconst (v := (0 : Int32)) (pc := 36) dX2_take_36 rfl ?_
      refine gz_gk hf (fun c_14 hf => ?_)
      refine gz_cVV (av := [.int (0 : Int32)]) (st := []) (pc := 37) dX2_take_37 kl_RX2_56 rfl (gz_shs c_14) rfl rfl (Nat.le_of_ble_eq_true rfl) (by show d + 0 + 0 + 1 ≤ d + 1; omega) (sX2_removeAt (d := d + 0) (gz_gc hf)) (fun _ h_12 hf => ?_)
      refine gz_fg (lv := [.ref a0, .int x1, .int y_10, .retAddr 0]) ⟨Or.inr rfl, ⟨Or.inr rfl, ⟨Or.inr rfl, ⟨Or.inl rfl, trivial⟩⟩⟩⟩ ?_
      exact sX2_take_40 a0 x1 y_10 h_12 hf
  · have hf := gz_gF hf c_4
    refine gz_aload_n (pc := 15) dX2_take_15 rfl rfl ?_
    refine gz_iload_n (pc := 16) dX2_take_16 rfl rfl ?_
    refine gz_gk hf (fun c_17 hf => ?_)
    refine gz_cVV (av := [.int y_2]) (st := []) (pc := 17) dX2_take_17 kl_RX2_56 rfl (gz_shs c_17) rfl rfl (Nat.le_of_ble_eq_true rfl) (by show d + 0 + 0 + 1 ≤ d + 1; omega) (sX2_removeAt (d := d + 0) (gz_gc hf)) (fun _ h_15 hf => ?_)
    refine gz_goto (tgt := 40) (pc := 20) dX2_take_20 rfl ?_
    refine gz_fg (lv := [.ref a0, .int x1, .int (-9 : Int32), .retAddr 0]) ⟨Or.inr rfl, ⟨Or.inr rfl, ⟨Or.inr rfl, ⟨Or.inl rfl, trivial⟩⟩⟩⟩ ?_
    exact sX2_take_40 a0 x1 (-9 : Int32) h_15 hf
def fX2_take (a0 : Nat) (x1 : Int32) (h : gz_H) : Option (Int32 × gz_H) := fX2_take_0 a0 x1 h
theorem sX2_take {G : gz_G} {d : Nat} {a0 : Nat} {x1 : Int32} {h : gz_H} {Q : Int32 → gz_H → Prop} (hf : gz_g (fX2_take a0 x1 h) Q) : gz_Cl G mX2_take (d + 1) 0 0 [.ref a0, .int x1] h (gz_qi Q) := gz_cl_of (lo := [.ref a0, .int x1, .retAddr 0, .retAddr 0]) (by decide) rfl rfl (Nat.le_of_ble_eq_true rfl) (sX2_take_0 a0 x1 h hf)
theorem dX2_newest_0 : decode cX2_newest 0 = .ok (.aload_n 0, 1) := by decide +kernel
theorem dX2_newest_1 : decode cX2_newest 1 = .ok (.getfield 25, 3) := by decide +kernel
theorem dX2_newest_4 : decode cX2_newest 4 = .ok (.ifCond .le 17, 3) := by decide +kernel
theorem dX2_newest_7 : decode cX2_newest 7 = .ok (.aload_n 0, 1) := by decide +kernel
theorem dX2_newest_8 : decode cX2_newest 8 = .ok (.getfield 9, 3) := by decide +kernel
theorem dX2_newest_11 : decode cX2_newest 11 = .ok (.aload_n 0, 1) := by decide +kernel
theorem dX2_newest_12 : decode cX2_newest 12 = .ok (.getfield 25, 3) := by decide +kernel
theorem dX2_newest_15 : decode cX2_newest 15 = .ok (.iconst 1, 1) := by decide +kernel
theorem dX2_newest_16 : decode cX2_newest 16 = .ok (.isub, 1) := by decide +kernel
theorem dX2_newest_17 : decode cX2_newest 17 = .ok (.iaload, 1) := by decide +kernel
theorem dX2_newest_18 : decode cX2_newest 18 = .ok (.goto 5, 3) := by decide +kernel
theorem dX2_newest_21 : decode cX2_newest 21 = .ok (.bipush (-9), 2) := by decide +kernel
theorem dX2_newest_23 : decode cX2_newest 23 = .ok (.ireturn, 1) := by decide +kernel
def fX2_newest_0  (a0 : Nat) (h : gz_H) : Option (Int32 × gz_H) :=
    gz_ck (gz_sh h a0 2 6) <|
    if (h.2.1 a0 1) ≤ 0 then (
     some ((-9 : Int32), h)
    ) else (
     gz_br (h.2.2.2 a0 0) fun r_3 =>
     gz_ck (gz_inb h r_3 10 ((h.2.1 a0 1) - (1 : Int32))) <|
     some (h.2.1 r_3 ((h.2.1 a0 1) - (1 : Int32)).toNatClampNeg, h)
    )
set_option maxRecDepth 100000 in
set_option maxHeartbeats 1000000 in
theorem sX2_newest_0 {G : gz_G} {d l0 s0 : Nat} {Q : Int32 → gz_H → Prop} (a0 : Nat) (h : gz_H) (hf : gz_g (fX2_newest_0  a0 h) Q) : gz_Ok G mX2_newest (d + 0, l0, s0, 0, 0) 0 [.ref a0] [] h (gz_qi Q) := by
  unfold fX2_newest_0 at hf
  refine gz_aload_n (pc := 0) dX2_newest_0 rfl rfl ?_
  refine gz_gk hf (fun c_1 hf => ?_)
  refine gz_getI (pc := 1) dX2_newest_1 fl_RX2_25 rfl (gz_shs c_1) ?_
  refine gz_if_le (tgt := 21) (pc := 4) dX2_newest_4 rfl (fun c_2 => ?_) (fun c_2 => ?_)
  · have hf := gz_gT hf c_2
    refine gz_bipush (v := (-9 : Int32)) (pc := 21) dX2_newest_21 rfl ?_
    exact gz_irt (pc := 23) dX2_newest_23 rfl rfl hf
  · have hf := gz_gF hf c_2
    refine gz_aload_n (pc := 7) dX2_newest_7 rfl rfl ?_
    refine gz_gb hf (fun r_3 er_3 hf => ?_)
    refine gz_getR (pc := 8) dX2_newest_8 fl_RX2_9 rfl (gz_shs c_1) er_3 ?_
    refine gz_aload_n (pc := 11) dX2_newest_11 rfl rfl ?_
    refine gz_getI (pc := 12) dX2_newest_12 fl_RX2_25 rfl (gz_shs c_1) ?_
    refine gz_iconst (v := (1 : Int32)) (pc := 15) dX2_newest_15 rfl ?_
    refine gz_isub (pc := 16) dX2_newest_16 ?_
    refine gz_gk hf (fun c_4 hf => ?_)
    refine gz_iald (pc := 17) dX2_newest_17 c_4 ?_
    refine gz_goto (tgt := 23) (pc := 18) dX2_newest_18 rfl ?_
    exact gz_irt (pc := 23) dX2_newest_23 rfl rfl hf
def fX2_newest (a0 : Nat) (h : gz_H) : Option (Int32 × gz_H) := fX2_newest_0 a0 h
theorem sX2_newest {G : gz_G} {d : Nat} {a0 : Nat} {h : gz_H} {Q : Int32 → gz_H → Prop} (hf : gz_g (fX2_newest a0 h) Q) : gz_Cl G mX2_newest (d + 0) 0 0 [.ref a0] h (gz_qi Q) := gz_cl_of (lo := [.ref a0]) (by decide) rfl rfl (Nat.le_of_ble_eq_true rfl) (sX2_newest_0 a0 h hf)
theorem dX2_loseNewest_0 : decode cX2_loseNewest 0 = .ok (.aload_n 0, 1) := by decide +kernel
theorem dX2_loseNewest_1 : decode cX2_loseNewest 1 = .ok (.invokevirtual 50, 3) := by decide +kernel
theorem dX2_loseNewest_4 : decode cX2_loseNewest 4 = .ok (.istore_n 1, 1) := by decide +kernel
theorem dX2_loseNewest_5 : decode cX2_loseNewest 5 = .ok (.aload_n 0, 1) := by decide +kernel
theorem dX2_loseNewest_6 : decode cX2_loseNewest 6 = .ok (.getfield 25, 3) := by decide +kernel
theorem dX2_loseNewest_9 : decode cX2_loseNewest 9 = .ok (.ifCond .le 13, 3) := by decide +kernel
theorem dX2_loseNewest_12 : decode cX2_loseNewest 12 = .ok (.aload_n 0, 1) := by decide +kernel
theorem dX2_loseNewest_13 : decode cX2_loseNewest 13 = .ok (.dup, 1) := by decide +kernel
theorem dX2_loseNewest_14 : decode cX2_loseNewest 14 = .ok (.getfield 25, 3) := by decide +kernel
theorem dX2_loseNewest_17 : decode cX2_loseNewest 17 = .ok (.iconst 1, 1) := by decide +kernel
theorem dX2_loseNewest_18 : decode cX2_loseNewest 18 = .ok (.isub, 1) := by decide +kernel
theorem dX2_loseNewest_19 : decode cX2_loseNewest 19 = .ok (.putfield 25, 3) := by decide +kernel
theorem dX2_loseNewest_22 : decode cX2_loseNewest 22 = .ok (.iload_n 1, 1) := by decide +kernel
theorem dX2_loseNewest_23 : decode cX2_loseNewest 23 = .ok (.ireturn, 1) := by decide +kernel
def fX2_loseNewest_0  (a0 : Nat) (h : gz_H) : Option (Int32 × gz_H) :=
    gz_ck (gz_sh h a0 2 6) <|
    gz_b2 (fX2_newest a0 h) fun y_2 h_1 =>
    gz_ck (gz_sh h_1 a0 2 6) <|
    if (h_1.2.1 a0 1) ≤ 0 then (
     some (y_2, h_1)
    ) else (
     gz_lt (uI h_1 a0 1 ((h_1.2.1 a0 1) - (1 : Int32))) fun h_6 =>
     some (y_2, h_6)
    )
set_option maxRecDepth 100000 in
set_option maxHeartbeats 1000000 in
theorem sX2_loseNewest_0 {G : gz_G} {d l0 s0 : Nat} {Q : Int32 → gz_H → Prop} (a0 : Nat) (h : gz_H) (hf : gz_g (fX2_loseNewest_0  a0 h) Q) : gz_Ok G mX2_loseNewest (d + 1, l0, s0, 0, 0) 0 [.ref a0, .retAddr 0] [] h (gz_qi Q) := by
  unfold fX2_loseNewest_0 at hf
  refine gz_aload_n (pc := 0) dX2_loseNewest_0 rfl rfl ?_
  refine gz_gk hf (fun c_3 hf => ?_)
  refine gz_cVI (av := []) (st := []) (pc := 1) dX2_loseNewest_1 kl_RX2_50 rfl (gz_shs c_3) rfl rfl (Nat.le_of_ble_eq_true rfl) (by show d + 0 + 0 + 1 ≤ d + 1; omega) (sX2_newest (d := d + 0) (gz_gc hf)) (fun y_2 h_1 hf => ?_)
  refine gz_istore_n (lv := [.ref a0, .int y_2]) (pc := 4) dX2_loseNewest_4 rfl (by decide) rfl ?_
  refine gz_aload_n (pc := 5) dX2_loseNewest_5 rfl rfl ?_
  refine gz_gk hf (fun c_4 hf => ?_)
  refine gz_getI (pc := 6) dX2_loseNewest_6 fl_RX2_25 rfl (gz_shs c_4) ?_
  refine gz_if_le (tgt := 22) (pc := 9) dX2_loseNewest_9 rfl (fun c_5 => ?_) (fun c_5 => ?_)
  · have hf := gz_gT hf c_5
    refine gz_iload_n (pc := 22) dX2_loseNewest_22 rfl rfl ?_
    exact gz_irt (pc := 23) dX2_loseNewest_23 rfl rfl hf
  · have hf := gz_gF hf c_5
    refine gz_aload_n (pc := 12) dX2_loseNewest_12 rfl rfl ?_
    refine gz_dup (pc := 13) dX2_loseNewest_13 rfl ?_
    refine gz_getI (pc := 14) dX2_loseNewest_14 fl_RX2_25 rfl (gz_shs c_4) ?_
    refine gz_iconst (v := (1 : Int32)) (pc := 17) dX2_loseNewest_17 rfl ?_
    refine gz_isub (pc := 18) dX2_loseNewest_18 ?_
    refine gz_putI (pc := 19) dX2_loseNewest_19 fw_X2_loseNewest_25 rfl rfl rfl (gz_shs c_4) ?_
    refine gz_nmH (fun h_6 eh_6 => ?_)
    have hf := gz_gl eh_6 hf
    refine gz_iload_n (pc := 22) dX2_loseNewest_22 rfl rfl ?_
    exact gz_irt (pc := 23) dX2_loseNewest_23 rfl rfl hf
def fX2_loseNewest (a0 : Nat) (h : gz_H) : Option (Int32 × gz_H) := fX2_loseNewest_0 a0 h
theorem sX2_loseNewest {G : gz_G} {d : Nat} {a0 : Nat} {h : gz_H} {Q : Int32 → gz_H → Prop} (hf : gz_g (fX2_loseNewest a0 h) Q) : gz_Cl G mX2_loseNewest (d + 1) 0 0 [.ref a0] h (gz_qi Q) := gz_cl_of (lo := [.ref a0, .retAddr 0]) (by decide) rfl rfl (Nat.le_of_ble_eq_true rfl) (sX2_loseNewest_0 a0 h hf)
theorem dX1_mixAtPond_0 : decode cX1_mixAtPond 0 = .ok (.aload_n 0, 1) := by decide +kernel
theorem dX1_mixAtPond_1 : decode cX1_mixAtPond 1 = .ok (.getfield 17, 3) := by decide +kernel
theorem dX1_mixAtPond_4 : decode cX1_mixAtPond 4 = .ok (.iload_n 1, 1) := by decide +kernel
theorem dX1_mixAtPond_5 : decode cX1_mixAtPond 5 = .ok (.aaload, 1) := by decide +kernel
theorem dX1_mixAtPond_6 : decode cX1_mixAtPond 6 = .ok (.getfield 73, 3) := by decide +kernel
theorem dX1_mixAtPond_9 : decode cX1_mixAtPond 9 = .ok (.aload_n 0, 1) := by decide +kernel
theorem dX1_mixAtPond_10 : decode cX1_mixAtPond 10 = .ok (.getfield 17, 3) := by decide +kernel
theorem dX1_mixAtPond_13 : decode cX1_mixAtPond 13 = .ok (.iload_n 2, 1) := by decide +kernel
theorem dX1_mixAtPond_14 : decode cX1_mixAtPond 14 = .ok (.aaload, 1) := by decide +kernel
theorem dX1_mixAtPond_15 : decode cX1_mixAtPond 15 = .ok (.getfield 73, 3) := by decide +kernel
theorem dX1_mixAtPond_18 : decode cX1_mixAtPond 18 = .ok (.isub, 1) := by decide +kernel
theorem dX1_mixAtPond_19 : decode cX1_mixAtPond 19 = .ok (.istore_n 3, 1) := by decide +kernel
theorem dX1_mixAtPond_20 : decode cX1_mixAtPond 20 = .ok (.iload_n 3, 1) := by decide +kernel
theorem dX1_mixAtPond_21 : decode cX1_mixAtPond 21 = .ok (.ifCond .gt 12, 3) := by decide +kernel
theorem dX1_mixAtPond_24 : decode cX1_mixAtPond 24 = .ok (.iload_n 3, 1) := by decide +kernel
theorem dX1_mixAtPond_25 : decode cX1_mixAtPond 25 = .ok (.ifCond .ne 12, 3) := by decide +kernel
theorem dX1_mixAtPond_28 : decode cX1_mixAtPond 28 = .ok (.iload_n 1, 1) := by decide +kernel
theorem dX1_mixAtPond_29 : decode cX1_mixAtPond 29 = .ok (.iload_n 2, 1) := by decide +kernel
theorem dX1_mixAtPond_30 : decode cX1_mixAtPond 30 = .ok (.if_icmp .ge 7, 3) := by decide +kernel
theorem dX1_mixAtPond_33 : decode cX1_mixAtPond 33 = .ok (.iconst 1, 1) := by decide +kernel
theorem dX1_mixAtPond_34 : decode cX1_mixAtPond 34 = .ok (.goto 4, 3) := by decide +kernel
theorem dX1_mixAtPond_37 : decode cX1_mixAtPond 37 = .ok (.iconst 0, 1) := by decide +kernel
theorem dX1_mixAtPond_38 : decode cX1_mixAtPond 38 = .ok (.istore 4, 2) := by decide +kernel
theorem dX1_mixAtPond_40 : decode cX1_mixAtPond 40 = .ok (.aload_n 0, 1) := by decide +kernel
theorem dX1_mixAtPond_41 : decode cX1_mixAtPond 41 = .ok (.getfield 17, 3) := by decide +kernel
theorem dX1_mixAtPond_44 : decode cX1_mixAtPond 44 = .ok (.iload 4, 2) := by decide +kernel
theorem dX1_mixAtPond_46 : decode cX1_mixAtPond 46 = .ok (.ifCond .eq 7, 3) := by decide +kernel
theorem dX1_mixAtPond_49 : decode cX1_mixAtPond 49 = .ok (.iload_n 1, 1) := by decide +kernel
theorem dX1_mixAtPond_50 : decode cX1_mixAtPond 50 = .ok (.goto 4, 3) := by decide +kernel
theorem dX1_mixAtPond_53 : decode cX1_mixAtPond 53 = .ok (.iload_n 2, 1) := by decide +kernel
theorem dX1_mixAtPond_54 : decode cX1_mixAtPond 54 = .ok (.aaload, 1) := by decide +kernel
theorem dX1_mixAtPond_55 : decode cX1_mixAtPond 55 = .ok (.invokevirtual 76, 3) := by decide +kernel
theorem dX1_mixAtPond_58 : decode cX1_mixAtPond 58 = .ok (.istore 5, 2) := by decide +kernel
theorem dX1_mixAtPond_60 : decode cX1_mixAtPond 60 = .ok (.iload 5, 2) := by decide +kernel
theorem dX1_mixAtPond_62 : decode cX1_mixAtPond 62 = .ok (.bipush (-9), 2) := by decide +kernel
theorem dX1_mixAtPond_64 : decode cX1_mixAtPond 64 = .ok (.if_icmp .eq 24, 3) := by decide +kernel
theorem dX1_mixAtPond_67 : decode cX1_mixAtPond 67 = .ok (.aload_n 0, 1) := by decide +kernel
theorem dX1_mixAtPond_68 : decode cX1_mixAtPond 68 = .ok (.getfield 17, 3) := by decide +kernel
theorem dX1_mixAtPond_71 : decode cX1_mixAtPond 71 = .ok (.iload 4, 2) := by decide +kernel
theorem dX1_mixAtPond_73 : decode cX1_mixAtPond 73 = .ok (.ifCond .eq 7, 3) := by decide +kernel
theorem dX1_mixAtPond_76 : decode cX1_mixAtPond 76 = .ok (.iload_n 2, 1) := by decide +kernel
theorem dX1_mixAtPond_77 : decode cX1_mixAtPond 77 = .ok (.goto 4, 3) := by decide +kernel
theorem dX1_mixAtPond_80 : decode cX1_mixAtPond 80 = .ok (.iload_n 1, 1) := by decide +kernel
theorem dX1_mixAtPond_81 : decode cX1_mixAtPond 81 = .ok (.aaload, 1) := by decide +kernel
theorem dX1_mixAtPond_82 : decode cX1_mixAtPond 82 = .ok (.iload 5, 2) := by decide +kernel
theorem dX1_mixAtPond_84 : decode cX1_mixAtPond 84 = .ok (.invokevirtual 60, 3) := by decide +kernel
theorem dX1_mixAtPond_87 : decode cX1_mixAtPond 87 = .ok (.pop, 1) := by decide +kernel
theorem dX1_mixAtPond_88 : decode cX1_mixAtPond 88 = .ok (.iload 5, 2) := by decide +kernel
theorem dX1_mixAtPond_90 : decode cX1_mixAtPond 90 = .ok (.ireturn, 1) := by decide +kernel
def fX1_mixAtPond_81  (x5 : Int32) (b0 : Nat) (w1 : Int32) (h : gz_H) : Option (Int32 × gz_H) :=
    gz_ck (gz_inb h b0 11 w1) <|
    gz_br (h.2.2.2 b0 w1.toNatClampNeg) fun r_2 =>
    gz_ck (gz_sh h r_2 2 6) <|
    gz_b2 (fX2_take r_2 x5 h) fun y_4 h_3 =>
    some (x5, h_3)
set_option maxRecDepth 100000 in
set_option maxHeartbeats 1000000 in
theorem sX1_mixAtPond_81 {G : gz_G} {d l0 s0 : Nat} {Q : Int32 → gz_H → Prop} (x5 : Int32) (b0 : Nat) (w1 : Int32) (h : gz_H) (hf : gz_g (fX1_mixAtPond_81  x5 b0 w1 h) Q) : gz_Ok G mX1_mixAtPond (d + 2, l0, s0, 0, 0) 81 [.retAddr 0, .retAddr 0, .retAddr 0, .retAddr 0, .retAddr 0, .int x5] [.int w1, .ref b0] h (gz_qi Q) := by
  unfold fX1_mixAtPond_81 at hf
  refine gz_gk hf (fun c_1 hf => ?_)
  refine gz_gb hf (fun r_2 er_2 hf => ?_)
  refine gz_aald (Or.inl rfl) (pc := 81) dX1_mixAtPond_81 c_1 er_2 ?_
  refine gz_iload (pc := 82) dX1_mixAtPond_82 rfl ?_
  refine gz_gk hf (fun c_5 hf => ?_)
  refine gz_cVI (av := [.int x5]) (st := []) (pc := 84) dX1_mixAtPond_84 kl_RX1_60 rfl (gz_shs c_5) rfl rfl (Nat.le_of_ble_eq_true rfl) (by show d + 0 + 1 + 1 ≤ d + 2; omega) (sX2_take (d := d + 0) (gz_gc hf)) (fun y_4 h_3 hf => ?_)
  refine gz_pop (pc := 87) dX1_mixAtPond_87 rfl ?_
  refine gz_iload (pc := 88) dX1_mixAtPond_88 rfl ?_
  exact gz_irt (pc := 90) dX1_mixAtPond_90 rfl rfl hf
def fX1_mixAtPond_54  (a0 : Nat) (x1 : Int32) (x2 : Int32) (x4 : Int32) (b0 : Nat) (w1 : Int32) (h : gz_H) : Option (Int32 × gz_H) :=
    gz_ck (gz_inb h b0 11 w1) <|
    gz_br (h.2.2.2 b0 w1.toNatClampNeg) fun r_2 =>
    gz_ck (gz_sh h r_2 2 6) <|
    gz_b2 (fX2_newest r_2 h) fun y_4 h_3 =>
    if y_4 = (-9 : Int32) then (
     some (y_4, h_3)
    ) else (
     gz_ck (gz_sh h_3 a0 1 4) <|
     gz_br (h_3.2.2.2 a0 1) fun r_8 =>
     if x4 = 0 then (
      fX1_mixAtPond_81 y_4 r_8 x1 h_3
     ) else (
      fX1_mixAtPond_81 y_4 r_8 x2 h_3
     )
    )
set_option maxRecDepth 100000 in
set_option maxHeartbeats 1000000 in
theorem sX1_mixAtPond_54 {G : gz_G} {d l0 s0 : Nat} {Q : Int32 → gz_H → Prop} (a0 : Nat) (x1 : Int32) (x2 : Int32) (x4 : Int32) (b0 : Nat) (w1 : Int32) (h : gz_H) (hf : gz_g (fX1_mixAtPond_54  a0 x1 x2 x4 b0 w1 h) Q) : gz_Ok G mX1_mixAtPond (d + 2, l0, s0, 0, 0) 54 [.ref a0, .int x1, .int x2, .retAddr 0, .int x4, .retAddr 0] [.int w1, .ref b0] h (gz_qi Q) := by
  unfold fX1_mixAtPond_54 at hf
  refine gz_gk hf (fun c_1 hf => ?_)
  refine gz_gb hf (fun r_2 er_2 hf => ?_)
  refine gz_aald (Or.inl rfl) (pc := 54) dX1_mixAtPond_54 c_1 er_2 ?_
  refine gz_gk hf (fun c_5 hf => ?_)
  refine gz_cVI (av := []) (st := []) (pc := 55) dX1_mixAtPond_55 kl_RX1_76 rfl (gz_shs c_5) rfl rfl (Nat.le_of_ble_eq_true rfl) (by show d + 1 + 0 + 1 ≤ d + 2; omega) (sX2_newest (d := d + 1) (gz_gc hf)) (fun y_4 h_3 hf => ?_)
  refine gz_istore (lv := [.ref a0, .int x1, .int x2, .retAddr 0, .int x4, .int y_4]) (pc := 58) dX1_mixAtPond_58 (by decide) rfl ?_
  refine gz_iload (pc := 60) dX1_mixAtPond_60 rfl ?_
  refine gz_bipush (v := (-9 : Int32)) (pc := 62) dX1_mixAtPond_62 rfl ?_
  refine gz_icmp_eq (tgt := 88) (pc := 64) dX1_mixAtPond_64 rfl (fun c_6 => ?_) (fun c_6 => ?_)
  · have hf := gz_gT hf c_6
    refine gz_iload (pc := 88) dX1_mixAtPond_88 rfl ?_
    exact gz_irt (pc := 90) dX1_mixAtPond_90 rfl rfl hf
  · have hf := gz_gF hf c_6
    refine gz_aload_n (pc := 67) dX1_mixAtPond_67 rfl rfl ?_
    refine gz_gk hf (fun c_7 hf => ?_)
    refine gz_gb hf (fun r_8 er_8 hf => ?_)
    refine gz_getR (pc := 68) dX1_mixAtPond_68 fl_RX1_17 rfl (gz_shs c_7) er_8 ?_
    refine gz_iload (pc := 71) dX1_mixAtPond_71 rfl ?_
    refine gz_if_eq (tgt := 80) (pc := 73) dX1_mixAtPond_73 rfl (fun c_9 => ?_) (fun c_9 => ?_)
    · have hf := gz_gT hf c_9
      refine gz_iload_n (pc := 80) dX1_mixAtPond_80 rfl rfl ?_
      refine gz_fg (lv := [.retAddr 0, .retAddr 0, .retAddr 0, .retAddr 0, .retAddr 0, .int y_4]) ⟨Or.inl rfl, ⟨Or.inl rfl, ⟨Or.inl rfl, ⟨Or.inl rfl, ⟨Or.inl rfl, ⟨Or.inr rfl, trivial⟩⟩⟩⟩⟩⟩ ?_
      exact sX1_mixAtPond_81 y_4 r_8 x1 h_3 hf
    · have hf := gz_gF hf c_9
      refine gz_iload_n (pc := 76) dX1_mixAtPond_76 rfl rfl ?_
      refine gz_goto (tgt := 81) (pc := 77) dX1_mixAtPond_77 rfl ?_
      refine gz_fg (lv := [.retAddr 0, .retAddr 0, .retAddr 0, .retAddr 0, .retAddr 0, .int y_4]) ⟨Or.inl rfl, ⟨Or.inl rfl, ⟨Or.inl rfl, ⟨Or.inl rfl, ⟨Or.inl rfl, ⟨Or.inr rfl, trivial⟩⟩⟩⟩⟩⟩ ?_
      exact sX1_mixAtPond_81 y_4 r_8 x2 h_3 hf
def fX1_mixAtPond_38  (a0 : Nat) (x1 : Int32) (x2 : Int32) (w0 : Int32) (h : gz_H) : Option (Int32 × gz_H) :=
    gz_ck (gz_sh h a0 1 4) <|
    gz_br (h.2.2.2 a0 1) fun r_2 =>
    if w0 = 0 then (
     fX1_mixAtPond_54 a0 x1 x2 w0 r_2 x2 h
    ) else (
     fX1_mixAtPond_54 a0 x1 x2 w0 r_2 x1 h
    )
set_option maxRecDepth 100000 in
set_option maxHeartbeats 1000000 in
theorem sX1_mixAtPond_38 {G : gz_G} {d l0 s0 : Nat} {Q : Int32 → gz_H → Prop} (a0 : Nat) (x1 : Int32) (x2 : Int32) (w0 : Int32) (h : gz_H) (hf : gz_g (fX1_mixAtPond_38  a0 x1 x2 w0 h) Q) : gz_Ok G mX1_mixAtPond (d + 2, l0, s0, 0, 0) 38 [.ref a0, .int x1, .int x2, .retAddr 0, .retAddr 0, .retAddr 0] [.int w0] h (gz_qi Q) := by
  unfold fX1_mixAtPond_38 at hf
  refine gz_istore (lv := [.ref a0, .int x1, .int x2, .retAddr 0, .int w0, .retAddr 0]) (pc := 38) dX1_mixAtPond_38 (by decide) rfl ?_
  refine gz_aload_n (pc := 40) dX1_mixAtPond_40 rfl rfl ?_
  refine gz_gk hf (fun c_1 hf => ?_)
  refine gz_gb hf (fun r_2 er_2 hf => ?_)
  refine gz_getR (pc := 41) dX1_mixAtPond_41 fl_RX1_17 rfl (gz_shs c_1) er_2 ?_
  refine gz_iload (pc := 44) dX1_mixAtPond_44 rfl ?_
  refine gz_if_eq (tgt := 53) (pc := 46) dX1_mixAtPond_46 rfl (fun c_3 => ?_) (fun c_3 => ?_)
  · have hf := gz_gT hf c_3
    refine gz_iload_n (pc := 53) dX1_mixAtPond_53 rfl rfl ?_
    exact sX1_mixAtPond_54 a0 x1 x2 w0 r_2 x2 h hf
  · have hf := gz_gF hf c_3
    refine gz_iload_n (pc := 49) dX1_mixAtPond_49 rfl rfl ?_
    refine gz_goto (tgt := 54) (pc := 50) dX1_mixAtPond_50 rfl ?_
    exact sX1_mixAtPond_54 a0 x1 x2 w0 r_2 x1 h hf
def fX1_mixAtPond_33  (a0 : Nat) (x1 : Int32) (x2 : Int32) (h : gz_H) : Option (Int32 × gz_H) :=
    fX1_mixAtPond_38 a0 x1 x2 (1 : Int32) h
set_option maxRecDepth 100000 in
set_option maxHeartbeats 1000000 in
theorem sX1_mixAtPond_33 {G : gz_G} {d l0 s0 : Nat} {Q : Int32 → gz_H → Prop} (a0 : Nat) (x1 : Int32) (x2 : Int32) (h : gz_H) (hf : gz_g (fX1_mixAtPond_33  a0 x1 x2 h) Q) : gz_Ok G mX1_mixAtPond (d + 2, l0, s0, 0, 0) 33 [.ref a0, .int x1, .int x2, .retAddr 0, .retAddr 0, .retAddr 0] [] h (gz_qi Q) := by
  unfold fX1_mixAtPond_33 at hf
  refine gz_iconst (v := (1 : Int32)) (pc := 33) dX1_mixAtPond_33 rfl ?_
  refine gz_goto (tgt := 38) (pc := 34) dX1_mixAtPond_34 rfl ?_
  exact sX1_mixAtPond_38 a0 x1 x2 (1 : Int32) h hf
def fX1_mixAtPond_37  (a0 : Nat) (x1 : Int32) (x2 : Int32) (h : gz_H) : Option (Int32 × gz_H) :=
    fX1_mixAtPond_38 a0 x1 x2 (0 : Int32) h
set_option maxRecDepth 100000 in
set_option maxHeartbeats 1000000 in
theorem sX1_mixAtPond_37 {G : gz_G} {d l0 s0 : Nat} {Q : Int32 → gz_H → Prop} (a0 : Nat) (x1 : Int32) (x2 : Int32) (h : gz_H) (hf : gz_g (fX1_mixAtPond_37  a0 x1 x2 h) Q) : gz_Ok G mX1_mixAtPond (d + 2, l0, s0, 0, 0) 37 [.ref a0, .int x1, .int x2, .retAddr 0, .retAddr 0, .retAddr 0] [] h (gz_qi Q) := by
  unfold fX1_mixAtPond_37 at hf
  refine gz_iconst (v := (0 : Int32)) (pc := 37) dX1_mixAtPond_37 rfl ?_
  exact sX1_mixAtPond_38 a0 x1 x2 (0 : Int32) h hf
def fX1_mixAtPond_0  (a0 : Nat) (x1 : Int32) (x2 : Int32) (h : gz_H) : Option (Int32 × gz_H) :=
    gz_ck (gz_sh h a0 1 4) <|
    gz_br (h.2.2.2 a0 1) fun r_2 =>
    gz_ck (gz_inb h r_2 11 x1) <|
    gz_br (h.2.2.2 r_2 x1.toNatClampNeg) fun r_4 =>
    gz_ck (gz_sh h r_4 2 6) <|
    gz_ck (gz_inb h r_2 11 x2) <|
    gz_br (h.2.2.2 r_2 x2.toNatClampNeg) fun r_7 =>
    gz_ck (gz_sh h r_7 2 6) <|
    if 0 < ((h.2.1 r_4 4) - (h.2.1 r_7 4)) then (
     fX1_mixAtPond_33 a0 x1 x2 h
    ) else (
     if ((h.2.1 r_4 4) - (h.2.1 r_7 4)) = 0 then (
      if x2 ≤ x1 then (
       fX1_mixAtPond_37 a0 x1 x2 h
      ) else (
       fX1_mixAtPond_33 a0 x1 x2 h
      )
     ) else (
      fX1_mixAtPond_37 a0 x1 x2 h
     )
    )
set_option maxRecDepth 100000 in
set_option maxHeartbeats 1000000 in
theorem sX1_mixAtPond_0 {G : gz_G} {d l0 s0 : Nat} {Q : Int32 → gz_H → Prop} (a0 : Nat) (x1 : Int32) (x2 : Int32) (h : gz_H) (hf : gz_g (fX1_mixAtPond_0  a0 x1 x2 h) Q) : gz_Ok G mX1_mixAtPond (d + 2, l0, s0, 0, 0) 0 [.ref a0, .int x1, .int x2, .retAddr 0, .retAddr 0, .retAddr 0] [] h (gz_qi Q) := by
  unfold fX1_mixAtPond_0 at hf
  refine gz_aload_n (pc := 0) dX1_mixAtPond_0 rfl rfl ?_
  refine gz_gk hf (fun c_1 hf => ?_)
  refine gz_gb hf (fun r_2 er_2 hf => ?_)
  refine gz_getR (pc := 1) dX1_mixAtPond_1 fl_RX1_17 rfl (gz_shs c_1) er_2 ?_
  refine gz_iload_n (pc := 4) dX1_mixAtPond_4 rfl rfl ?_
  refine gz_gk hf (fun c_3 hf => ?_)
  refine gz_gb hf (fun r_4 er_4 hf => ?_)
  refine gz_aald (Or.inl rfl) (pc := 5) dX1_mixAtPond_5 c_3 er_4 ?_
  refine gz_gk hf (fun c_5 hf => ?_)
  refine gz_getI (pc := 6) dX1_mixAtPond_6 fl_RX1_73 rfl (gz_shs c_5) ?_
  refine gz_aload_n (pc := 9) dX1_mixAtPond_9 rfl rfl ?_
  refine gz_getR (pc := 10) dX1_mixAtPond_10 fl_RX1_17 rfl (gz_shs c_1) er_2 ?_
  refine gz_iload_n (pc := 13) dX1_mixAtPond_13 rfl rfl ?_
  refine gz_gk hf (fun c_6 hf => ?_)
  refine gz_gb hf (fun r_7 er_7 hf => ?_)
  refine gz_aald (Or.inl rfl) (pc := 14) dX1_mixAtPond_14 c_6 er_7 ?_
  refine gz_gk hf (fun c_8 hf => ?_)
  refine gz_getI (pc := 15) dX1_mixAtPond_15 fl_RX1_73 rfl (gz_shs c_8) ?_
  refine gz_isub (pc := 18) dX1_mixAtPond_18 ?_
  refine gz_istore_n (lv := [.ref a0, .int x1, .int x2, .int ((h.2.1 r_4 4) - (h.2.1 r_7 4)), .retAddr 0, .retAddr 0]) (pc := 19) dX1_mixAtPond_19 rfl (by decide) rfl ?_
  refine gz_iload_n (pc := 20) dX1_mixAtPond_20 rfl rfl ?_
  refine gz_if_gt (tgt := 33) (pc := 21) dX1_mixAtPond_21 rfl (fun c_9 => ?_) (fun c_9 => ?_)
  · have hf := gz_gT hf c_9
    refine gz_fg (lv := [.ref a0, .int x1, .int x2, .retAddr 0, .retAddr 0, .retAddr 0]) ⟨Or.inr rfl, ⟨Or.inr rfl, ⟨Or.inr rfl, ⟨Or.inl rfl, ⟨Or.inl rfl, ⟨Or.inl rfl, trivial⟩⟩⟩⟩⟩⟩ ?_
    exact sX1_mixAtPond_33 a0 x1 x2 h hf
  · have hf := gz_gF hf c_9
    refine gz_iload_n (pc := 24) dX1_mixAtPond_24 rfl rfl ?_
    refine gz_if_ne (tgt := 37) (pc := 25) dX1_mixAtPond_25 rfl (fun c_10 => ?_) (fun c_10 => ?_)
    · have hf := gz_gF hf c_10
      refine gz_fg (lv := [.ref a0, .int x1, .int x2, .retAddr 0, .retAddr 0, .retAddr 0]) ⟨Or.inr rfl, ⟨Or.inr rfl, ⟨Or.inr rfl, ⟨Or.inl rfl, ⟨Or.inl rfl, ⟨Or.inl rfl, trivial⟩⟩⟩⟩⟩⟩ ?_
      exact sX1_mixAtPond_37 a0 x1 x2 h hf
    · have hf := gz_gT hf c_10
      refine gz_iload_n (pc := 28) dX1_mixAtPond_28 rfl rfl ?_
      refine gz_iload_n (pc := 29) dX1_mixAtPond_29 rfl rfl ?_
      refine gz_icmp_ge (tgt := 37) (pc := 30) dX1_mixAtPond_30 rfl (fun c_11 => ?_) (fun c_11 => ?_)
      · have hf := gz_gT hf c_11
        refine gz_fg (lv := [.ref a0, .int x1, .int x2, .retAddr 0, .retAddr 0, .retAddr 0]) ⟨Or.inr rfl, ⟨Or.inr rfl, ⟨Or.inr rfl, ⟨Or.inl rfl, ⟨Or.inl rfl, ⟨Or.inl rfl, trivial⟩⟩⟩⟩⟩⟩ ?_
        exact sX1_mixAtPond_37 a0 x1 x2 h hf
      · have hf := gz_gF hf c_11
        refine gz_fg (lv := [.ref a0, .int x1, .int x2, .retAddr 0, .retAddr 0, .retAddr 0]) ⟨Or.inr rfl, ⟨Or.inr rfl, ⟨Or.inr rfl, ⟨Or.inl rfl, ⟨Or.inl rfl, ⟨Or.inl rfl, trivial⟩⟩⟩⟩⟩⟩ ?_
        exact sX1_mixAtPond_33 a0 x1 x2 h hf
def fX1_mixAtPond (a0 : Nat) (x1 : Int32) (x2 : Int32) (h : gz_H) : Option (Int32 × gz_H) := fX1_mixAtPond_0 a0 x1 x2 h
theorem sX1_mixAtPond {G : gz_G} {d : Nat} {a0 : Nat} {x1 : Int32} {x2 : Int32} {h : gz_H} {Q : Int32 → gz_H → Prop} (hf : gz_g (fX1_mixAtPond a0 x1 x2 h) Q) : gz_Cl G mX1_mixAtPond (d + 2) 0 0 [.ref a0, .int x1, .int x2] h (gz_qi Q) := gz_cl_of (lo := [.ref a0, .int x1, .int x2, .retAddr 0, .retAddr 0, .retAddr 0]) (by decide) rfl rfl (Nat.le_of_ble_eq_true rfl) (sX1_mixAtPond_0 a0 x1 x2 h hf)
theorem dX2_leave_0 : decode cX2_leave 0 = .ok (.aload_n 0, 1) := by decide +kernel
theorem dX2_leave_1 : decode cX2_leave 1 = .ok (.iconst 0, 1) := by decide +kernel
theorem dX2_leave_2 : decode cX2_leave 2 = .ok (.putfield 25, 3) := by decide +kernel
theorem dX2_leave_5 : decode cX2_leave 5 = .ok (.aload_n 0, 1) := by decide +kernel
theorem dX2_leave_6 : decode cX2_leave 6 = .ok (.iconst 1, 1) := by decide +kernel
theorem dX2_leave_7 : decode cX2_leave 7 = .ok (.putfield 28, 3) := by decide +kernel
theorem dX2_leave_10 : decode cX2_leave 10 = .ok (.return_, 1) := by decide +kernel
def fX2_leave_0  (a0 : Nat) (h : gz_H) : Option (Unit × gz_H) :=
    gz_ck (gz_sh h a0 2 6) <|
    gz_lt (uI h a0 1 (0 : Int32)) fun h_2 =>
    gz_ck (gz_sh h_2 a0 2 6) <|
    gz_lt (uI h_2 a0 5 (1 : Int32)) fun h_4 =>
    some ((), h_4)
set_option maxRecDepth 100000 in
set_option maxHeartbeats 1000000 in
theorem sX2_leave_0 {G : gz_G} {d l0 s0 : Nat} {Q : Unit → gz_H → Prop} (a0 : Nat) (h : gz_H) (hf : gz_g (fX2_leave_0  a0 h) Q) : gz_Ok G mX2_leave (d + 0, l0, s0, 0, 0) 0 [.ref a0] [] h (gz_qu Q) := by
  unfold fX2_leave_0 at hf
  refine gz_aload_n (pc := 0) dX2_leave_0 rfl rfl ?_
  refine gz_iconst (v := (0 : Int32)) (pc := 1) dX2_leave_1 rfl ?_
  refine gz_gk hf (fun c_1 hf => ?_)
  refine gz_putI (pc := 2) dX2_leave_2 fw_X2_leave_25 rfl rfl rfl (gz_shs c_1) ?_
  refine gz_nmH (fun h_2 eh_2 => ?_)
  have hf := gz_gl eh_2 hf
  refine gz_aload_n (pc := 5) dX2_leave_5 rfl rfl ?_
  refine gz_iconst (v := (1 : Int32)) (pc := 6) dX2_leave_6 rfl ?_
  refine gz_gk hf (fun c_3 hf => ?_)
  refine gz_putI (pc := 7) dX2_leave_7 fw_X2_leave_28 rfl rfl rfl (gz_shs c_3) ?_
  refine gz_nmH (fun h_4 eh_4 => ?_)
  have hf := gz_gl eh_4 hf
  exact gz_uret (pc := 10) dX2_leave_10 rfl hf
def fX2_leave (a0 : Nat) (h : gz_H) : Option (Unit × gz_H) := fX2_leave_0 a0 h
theorem sX2_leave {G : gz_G} {d : Nat} {a0 : Nat} {h : gz_H} {Q : Unit → gz_H → Prop} (hf : gz_g (fX2_leave a0 h) Q) : gz_Cl G mX2_leave (d + 0) 0 0 [.ref a0] h (gz_qu Q) := gz_cl_of (lo := [.ref a0]) (by decide) rfl rfl (Nat.le_of_ble_eq_true rfl) (sX2_leave_0 a0 h hf)
theorem dX2_set_0 : decode cX2_set 0 = .ok (.iconst 0, 1) := by decide +kernel
theorem dX2_set_1 : decode cX2_set 1 = .ok (.istore_n 1, 1) := by decide +kernel
theorem dX2_set_2 : decode cX2_set 2 = .ok (.iconst 0, 1) := by decide +kernel
theorem dX2_set_3 : decode cX2_set 3 = .ok (.istore_n 2, 1) := by decide +kernel
theorem dX2_set_4 : decode cX2_set 4 = .ok (.iload_n 2, 1) := by decide +kernel
theorem dX2_set_5 : decode cX2_set 5 = .ok (.aload_n 0, 1) := by decide +kernel
theorem dX2_set_6 : decode cX2_set 6 = .ok (.getfield 25, 3) := by decide +kernel
theorem dX2_set_9 : decode cX2_set 9 = .ok (.if_icmp .ge 20, 3) := by decide +kernel
theorem dX2_set_12 : decode cX2_set 12 = .ok (.iload_n 1, 1) := by decide +kernel
theorem dX2_set_13 : decode cX2_set 13 = .ok (.iconst 1, 1) := by decide +kernel
theorem dX2_set_14 : decode cX2_set 14 = .ok (.aload_n 0, 1) := by decide +kernel
theorem dX2_set_15 : decode cX2_set 15 = .ok (.getfield 9, 3) := by decide +kernel
theorem dX2_set_18 : decode cX2_set 18 = .ok (.iload_n 2, 1) := by decide +kernel
theorem dX2_set_19 : decode cX2_set 19 = .ok (.iaload, 1) := by decide +kernel
theorem dX2_set_20 : decode cX2_set 20 = .ok (.ishl, 1) := by decide +kernel
theorem dX2_set_21 : decode cX2_set 21 = .ok (.ior, 1) := by decide +kernel
theorem dX2_set_22 : decode cX2_set 22 = .ok (.istore_n 1, 1) := by decide +kernel
theorem dX2_set_23 : decode cX2_set 23 = .ok (.iinc 2 1, 3) := by decide +kernel
theorem dX2_set_26 : decode cX2_set 26 = .ok (.goto (-22), 3) := by decide +kernel
theorem dX2_set_29 : decode cX2_set 29 = .ok (.iload_n 1, 1) := by decide +kernel
theorem dX2_set_30 : decode cX2_set 30 = .ok (.ireturn, 1) := by decide +kernel
def fX2_set_4  : Nat → Nat → Int32 → Int32 → gz_H → Option (Int32 × gz_H)
  | 0, _, _, _, _ => none
  | n + 1, a0, x1, x2, h =>
    gz_ck (gz_sh h a0 2 6) <|
    if (h.2.1 a0 1) ≤ x2 then (
     some (x1, h)
    ) else (
     gz_br (h.2.2.2 a0 0) fun r_3 =>
     gz_ck (gz_inb h r_3 10 x2) <|
     gz_lt (x1 ||| ((1 : Int32) <<< ((h.2.1 r_3 x2.toNatClampNeg) &&& 31))) fun (y_5 : Int32) =>
     fX2_set_4 n a0 y_5 (x2 + 1) h
    )
set_option maxRecDepth 100000 in
set_option maxHeartbeats 1000000 in
theorem sX2_set_4 {G : gz_G} {d l0 s0 : Nat} {Q : Int32 → gz_H → Prop} : ∀ (n : Nat) (a0 : Nat) (x1 : Int32) (x2 : Int32) (h : gz_H), gz_g (fX2_set_4  n a0 x1 x2 h) Q → gz_Ok G mX2_set (d + 0, l0, s0, 0, 0) 4 [.ref a0, .int x1, .int x2] [] h (gz_qi Q) := by
  intro n
  induction n with
  | zero => intro a0 x1 x2 h hf; exact False.elim hf
  | succ n ih =>
    intro a0 x1 x2 h hf
    rw [fX2_set_4] at hf
    refine gz_iload_n (pc := 4) dX2_set_4 rfl rfl ?_
    refine gz_aload_n (pc := 5) dX2_set_5 rfl rfl ?_
    refine gz_gk hf (fun c_1 hf => ?_)
    refine gz_getI (pc := 6) dX2_set_6 fl_RX2_25 rfl (gz_shs c_1) ?_
    refine gz_icmp_ge (tgt := 29) (pc := 9) dX2_set_9 rfl (fun c_2 => ?_) (fun c_2 => ?_)
    · have hf := gz_gT hf c_2
      refine gz_iload_n (pc := 29) dX2_set_29 rfl rfl ?_
      exact gz_irt (pc := 30) dX2_set_30 rfl rfl hf
    · have hf := gz_gF hf c_2
      refine gz_iload_n (pc := 12) dX2_set_12 rfl rfl ?_
      refine gz_iconst (v := (1 : Int32)) (pc := 13) dX2_set_13 rfl ?_
      refine gz_aload_n (pc := 14) dX2_set_14 rfl rfl ?_
      refine gz_gb hf (fun r_3 er_3 hf => ?_)
      refine gz_getR (pc := 15) dX2_set_15 fl_RX2_9 rfl (gz_shs c_1) er_3 ?_
      refine gz_iload_n (pc := 18) dX2_set_18 rfl rfl ?_
      refine gz_gk hf (fun c_4 hf => ?_)
      refine gz_iald (pc := 19) dX2_set_19 c_4 ?_
      refine gz_ishl (pc := 20) dX2_set_20 ?_
      refine gz_ior (pc := 21) dX2_set_21 ?_
      refine gz_nmI (fun y_5 ey_5 => ?_)
      have hf := gz_gl ey_5 hf
      refine gz_istore_n (lv := [.ref a0, .int y_5, .int x2]) (pc := 22) dX2_set_22 rfl (by decide) rfl ?_
      refine gz_iinc (v := x2 + 1) (lv := [.ref a0, .int y_5, .int (x2 + 1)]) (pc := 23) dX2_set_23 rfl rfl (by decide) rfl ?_
      refine gz_goto (tgt := 4) (pc := 26) dX2_set_26 rfl ?_
      exact ih a0 y_5 (x2 + 1) h hf
def fX2_set_0  (a0 : Nat) (h : gz_H) : Option (Int32 × gz_H) :=
    fX2_set_4 gz_fu a0 (0 : Int32) (0 : Int32) h
set_option maxRecDepth 100000 in
set_option maxHeartbeats 1000000 in
theorem sX2_set_0 {G : gz_G} {d l0 s0 : Nat} {Q : Int32 → gz_H → Prop} (a0 : Nat) (h : gz_H) (hf : gz_g (fX2_set_0  a0 h) Q) : gz_Ok G mX2_set (d + 0, l0, s0, 0, 0) 0 [.ref a0, .retAddr 0, .retAddr 0] [] h (gz_qi Q) := by
  unfold fX2_set_0 at hf
  refine gz_iconst (v := (0 : Int32)) (pc := 0) dX2_set_0 rfl ?_
  refine gz_istore_n (lv := [.ref a0, .int (0 : Int32), .retAddr 0]) (pc := 1) dX2_set_1 rfl (by decide) rfl ?_
  refine gz_iconst (v := (0 : Int32)) (pc := 2) dX2_set_2 rfl ?_
  refine gz_istore_n (lv := [.ref a0, .int (0 : Int32), .int (0 : Int32)]) (pc := 3) dX2_set_3 rfl (by decide) rfl ?_
  exact sX2_set_4 gz_fu a0 (0 : Int32) (0 : Int32) h hf
def fX2_set (a0 : Nat) (h : gz_H) : Option (Int32 × gz_H) := fX2_set_0 a0 h
theorem sX2_set {G : gz_G} {d : Nat} {a0 : Nat} {h : gz_H} {Q : Int32 → gz_H → Prop} (hf : gz_g (fX2_set a0 h) Q) : gz_Cl G mX2_set (d + 0) 0 0 [.ref a0] h (gz_qi Q) := gz_cl_of (lo := [.ref a0, .retAddr 0, .retAddr 0]) (by decide) rfl rfl (Nat.le_of_ble_eq_true rfl) (sX2_set_0 a0 h hf)
theorem dX1_heldBySet_0 : decode cX1_heldBySet 0 = .ok (.iconst 0, 1) := by decide +kernel
theorem dX1_heldBySet_1 : decode cX1_heldBySet 1 = .ok (.istore_n 2, 1) := by decide +kernel
theorem dX1_heldBySet_2 : decode cX1_heldBySet 2 = .ok (.iconst 0, 1) := by decide +kernel
theorem dX1_heldBySet_3 : decode cX1_heldBySet 3 = .ok (.istore_n 3, 1) := by decide +kernel
theorem dX1_heldBySet_4 : decode cX1_heldBySet 4 = .ok (.iload_n 3, 1) := by decide +kernel
theorem dX1_heldBySet_5 : decode cX1_heldBySet 5 = .ok (.aload_n 0, 1) := by decide +kernel
theorem dX1_heldBySet_6 : decode cX1_heldBySet 6 = .ok (.getfield 32, 3) := by decide +kernel
theorem dX1_heldBySet_9 : decode cX1_heldBySet 9 = .ok (.if_icmp .ge 29, 3) := by decide +kernel
theorem dX1_heldBySet_12 : decode cX1_heldBySet 12 = .ok (.iload_n 1, 1) := by decide +kernel
theorem dX1_heldBySet_13 : decode cX1_heldBySet 13 = .ok (.iload_n 3, 1) := by decide +kernel
theorem dX1_heldBySet_14 : decode cX1_heldBySet 14 = .ok (.ishr, 1) := by decide +kernel
theorem dX1_heldBySet_15 : decode cX1_heldBySet 15 = .ok (.iconst 1, 1) := by decide +kernel
theorem dX1_heldBySet_16 : decode cX1_heldBySet 16 = .ok (.iand, 1) := by decide +kernel
theorem dX1_heldBySet_17 : decode cX1_heldBySet 17 = .ok (.ifCond .eq 15, 3) := by decide +kernel
theorem dX1_heldBySet_20 : decode cX1_heldBySet 20 = .ok (.iload_n 2, 1) := by decide +kernel
theorem dX1_heldBySet_21 : decode cX1_heldBySet 21 = .ok (.aload_n 0, 1) := by decide +kernel
theorem dX1_heldBySet_22 : decode cX1_heldBySet 22 = .ok (.getfield 17, 3) := by decide +kernel
theorem dX1_heldBySet_25 : decode cX1_heldBySet 25 = .ok (.iload_n 3, 1) := by decide +kernel
theorem dX1_heldBySet_26 : decode cX1_heldBySet 26 = .ok (.aaload, 1) := by decide +kernel
theorem dX1_heldBySet_27 : decode cX1_heldBySet 27 = .ok (.invokevirtual 90, 3) := by decide +kernel
theorem dX1_heldBySet_30 : decode cX1_heldBySet 30 = .ok (.ior, 1) := by decide +kernel
theorem dX1_heldBySet_31 : decode cX1_heldBySet 31 = .ok (.istore_n 2, 1) := by decide +kernel
theorem dX1_heldBySet_32 : decode cX1_heldBySet 32 = .ok (.iinc 3 1, 3) := by decide +kernel
theorem dX1_heldBySet_35 : decode cX1_heldBySet 35 = .ok (.goto (-31), 3) := by decide +kernel
theorem dX1_heldBySet_38 : decode cX1_heldBySet 38 = .ok (.iload_n 2, 1) := by decide +kernel
theorem dX1_heldBySet_39 : decode cX1_heldBySet 39 = .ok (.ireturn, 1) := by decide +kernel
def fX1_heldBySet_32 (k4 : Nat → Int32 → Int32 → Int32 → gz_H → Option (Int32 × gz_H)) (a0 : Nat) (x1 : Int32) (x2 : Int32) (x3 : Int32) (h : gz_H) : Option (Int32 × gz_H) :=
    k4 a0 x1 x2 (x3 + 1) h
set_option maxRecDepth 100000 in
set_option maxHeartbeats 1000000 in
theorem sX1_heldBySet_32 {G : gz_G} {d l0 s0 : Nat} {Q : Int32 → gz_H → Prop} {k4 : Nat → Int32 → Int32 → Int32 → gz_H → Option (Int32 × gz_H)} (hk4 : ∀ (a0 : Nat) (x1 : Int32) (x2 : Int32) (x3 : Int32) (h : gz_H), gz_g (k4 a0 x1 x2 x3 h) Q → gz_Ok G mX1_heldBySet (d + 1, l0, s0, 0, 0) 4 [.ref a0, .int x1, .int x2, .int x3] [] h (gz_qi Q)) (a0 : Nat) (x1 : Int32) (x2 : Int32) (x3 : Int32) (h : gz_H) (hf : gz_g (fX1_heldBySet_32 k4 a0 x1 x2 x3 h) Q) : gz_Ok G mX1_heldBySet (d + 1, l0, s0, 0, 0) 32 [.ref a0, .int x1, .int x2, .int x3] [] h (gz_qi Q) := by
  unfold fX1_heldBySet_32 at hf
  refine gz_iinc (v := x3 + 1) (lv := [.ref a0, .int x1, .int x2, .int (x3 + 1)]) (pc := 32) dX1_heldBySet_32 rfl rfl (by decide) rfl ?_
  refine gz_goto (tgt := 4) (pc := 35) dX1_heldBySet_35 rfl ?_
  exact hk4 a0 x1 x2 (x3 + 1) h hf
def fX1_heldBySet_4  : Nat → Nat → Int32 → Int32 → Int32 → gz_H → Option (Int32 × gz_H)
  | 0, _, _, _, _, _ => none
  | n + 1, a0, x1, x2, x3, h =>
    gz_ck (gz_sh h a0 1 4) <|
    if (h.2.1 a0 3) ≤ x3 then (
     some (x2, h)
    ) else (
     if ((x1 >>> (x3 &&& 31)) &&& (1 : Int32)) = 0 then (
      fX1_heldBySet_32 (fun z0 z1 z2 z3 zh => fX1_heldBySet_4 n z0 z1 z2 z3 zh) a0 x1 x2 x3 h
     ) else (
      gz_br (h.2.2.2 a0 1) fun r_4 =>
      gz_ck (gz_inb h r_4 11 x3) <|
      gz_br (h.2.2.2 r_4 x3.toNatClampNeg) fun r_6 =>
      gz_ck (gz_sh h r_6 2 6) <|
      gz_b2 (fX2_set r_6 h) fun y_8 h_7 =>
      fX1_heldBySet_32 (fun z0 z1 z2 z3 zh => fX1_heldBySet_4 n z0 z1 z2 z3 zh) a0 x1 (x2 ||| y_8) x3 h_7
     )
    )
set_option maxRecDepth 100000 in
set_option maxHeartbeats 1000000 in
theorem sX1_heldBySet_4 {G : gz_G} {d l0 s0 : Nat} {Q : Int32 → gz_H → Prop} : ∀ (n : Nat) (a0 : Nat) (x1 : Int32) (x2 : Int32) (x3 : Int32) (h : gz_H), gz_g (fX1_heldBySet_4  n a0 x1 x2 x3 h) Q → gz_Ok G mX1_heldBySet (d + 1, l0, s0, 0, 0) 4 [.ref a0, .int x1, .int x2, .int x3] [] h (gz_qi Q) := by
  intro n
  induction n with
  | zero => intro a0 x1 x2 x3 h hf; exact False.elim hf
  | succ n ih =>
    intro a0 x1 x2 x3 h hf
    rw [fX1_heldBySet_4] at hf
    refine gz_iload_n (pc := 4) dX1_heldBySet_4 rfl rfl ?_
    refine gz_aload_n (pc := 5) dX1_heldBySet_5 rfl rfl ?_
    refine gz_gk hf (fun c_1 hf => ?_)
    refine gz_getI (pc := 6) dX1_heldBySet_6 fl_RX1_32 rfl (gz_shs c_1) ?_
    refine gz_icmp_ge (tgt := 38) (pc := 9) dX1_heldBySet_9 rfl (fun c_2 => ?_) (fun c_2 => ?_)
    · have hf := gz_gT hf c_2
      refine gz_iload_n (pc := 38) dX1_heldBySet_38 rfl rfl ?_
      exact gz_irt (pc := 39) dX1_heldBySet_39 rfl rfl hf
    · have hf := gz_gF hf c_2
      refine gz_iload_n (pc := 12) dX1_heldBySet_12 rfl rfl ?_
      refine gz_iload_n (pc := 13) dX1_heldBySet_13 rfl rfl ?_
      refine gz_ishr (pc := 14) dX1_heldBySet_14 ?_
      refine gz_iconst (v := (1 : Int32)) (pc := 15) dX1_heldBySet_15 rfl ?_
      refine gz_iand (pc := 16) dX1_heldBySet_16 ?_
      refine gz_if_eq (tgt := 32) (pc := 17) dX1_heldBySet_17 rfl (fun c_3 => ?_) (fun c_3 => ?_)
      · have hf := gz_gT hf c_3
        exact sX1_heldBySet_32 ih a0 x1 x2 x3 h hf
      · have hf := gz_gF hf c_3
        refine gz_iload_n (pc := 20) dX1_heldBySet_20 rfl rfl ?_
        refine gz_aload_n (pc := 21) dX1_heldBySet_21 rfl rfl ?_
        refine gz_gb hf (fun r_4 er_4 hf => ?_)
        refine gz_getR (pc := 22) dX1_heldBySet_22 fl_RX1_17 rfl (gz_shs c_1) er_4 ?_
        refine gz_iload_n (pc := 25) dX1_heldBySet_25 rfl rfl ?_
        refine gz_gk hf (fun c_5 hf => ?_)
        refine gz_gb hf (fun r_6 er_6 hf => ?_)
        refine gz_aald (Or.inl rfl) (pc := 26) dX1_heldBySet_26 c_5 er_6 ?_
        refine gz_gk hf (fun c_9 hf => ?_)
        refine gz_cVI (av := []) (st := [.int x2]) (pc := 27) dX1_heldBySet_27 kl_RX1_90 rfl (gz_shs c_9) rfl rfl (Nat.le_of_ble_eq_true rfl) (by show d + 0 + 0 + 1 ≤ d + 1; omega) (sX2_set (d := d + 0) (gz_gc hf)) (fun y_8 h_7 hf => ?_)
        refine gz_ior (pc := 30) dX1_heldBySet_30 ?_
        refine gz_istore_n (lv := [.ref a0, .int x1, .int (x2 ||| y_8), .int x3]) (pc := 31) dX1_heldBySet_31 rfl (by decide) rfl ?_
        exact sX1_heldBySet_32 ih a0 x1 (x2 ||| y_8) x3 h_7 hf
def fX1_heldBySet_0  (a0 : Nat) (x1 : Int32) (h : gz_H) : Option (Int32 × gz_H) :=
    fX1_heldBySet_4 gz_fu a0 x1 (0 : Int32) (0 : Int32) h
set_option maxRecDepth 100000 in
set_option maxHeartbeats 1000000 in
theorem sX1_heldBySet_0 {G : gz_G} {d l0 s0 : Nat} {Q : Int32 → gz_H → Prop} (a0 : Nat) (x1 : Int32) (h : gz_H) (hf : gz_g (fX1_heldBySet_0  a0 x1 h) Q) : gz_Ok G mX1_heldBySet (d + 1, l0, s0, 0, 0) 0 [.ref a0, .int x1, .retAddr 0, .retAddr 0] [] h (gz_qi Q) := by
  unfold fX1_heldBySet_0 at hf
  refine gz_iconst (v := (0 : Int32)) (pc := 0) dX1_heldBySet_0 rfl ?_
  refine gz_istore_n (lv := [.ref a0, .int x1, .int (0 : Int32), .retAddr 0]) (pc := 1) dX1_heldBySet_1 rfl (by decide) rfl ?_
  refine gz_iconst (v := (0 : Int32)) (pc := 2) dX1_heldBySet_2 rfl ?_
  refine gz_istore_n (lv := [.ref a0, .int x1, .int (0 : Int32), .int (0 : Int32)]) (pc := 3) dX1_heldBySet_3 rfl (by decide) rfl ?_
  exact sX1_heldBySet_4 gz_fu a0 x1 (0 : Int32) (0 : Int32) h hf
def fX1_heldBySet (a0 : Nat) (x1 : Int32) (h : gz_H) : Option (Int32 × gz_H) := fX1_heldBySet_0 a0 x1 h
theorem sX1_heldBySet {G : gz_G} {d : Nat} {a0 : Nat} {x1 : Int32} {h : gz_H} {Q : Int32 → gz_H → Prop} (hf : gz_g (fX1_heldBySet a0 x1 h) Q) : gz_Cl G mX1_heldBySet (d + 1) 0 0 [.ref a0, .int x1] h (gz_qi Q) := gz_cl_of (lo := [.ref a0, .int x1, .retAddr 0, .retAddr 0]) (by decide) rfl rfl (Nat.le_of_ble_eq_true rfl) (sX1_heldBySet_0 a0 x1 h hf)
theorem dX1_heldBySome_0 : decode cX1_heldBySome 0 = .ok (.aload_n 0, 1) := by decide +kernel
theorem dX1_heldBySome_1 : decode cX1_heldBySome 1 = .ok (.iconst (-1), 1) := by decide +kernel
theorem dX1_heldBySome_2 : decode cX1_heldBySome 2 = .ok (.invokevirtual 93, 3) := by decide +kernel
theorem dX1_heldBySome_5 : decode cX1_heldBySome 5 = .ok (.ireturn, 1) := by decide +kernel
def fX1_heldBySome_0  (a0 : Nat) (h : gz_H) : Option (Int32 × gz_H) :=
    gz_ck (gz_sh h a0 1 4) <|
    gz_b2 (fX1_heldBySet a0 (-1 : Int32) h) fun y_2 h_1 =>
    some (y_2, h_1)
set_option maxRecDepth 100000 in
set_option maxHeartbeats 1000000 in
theorem sX1_heldBySome_0 {G : gz_G} {d l0 s0 : Nat} {Q : Int32 → gz_H → Prop} (a0 : Nat) (h : gz_H) (hf : gz_g (fX1_heldBySome_0  a0 h) Q) : gz_Ok G mX1_heldBySome (d + 2, l0, s0, 0, 0) 0 [.ref a0] [] h (gz_qi Q) := by
  unfold fX1_heldBySome_0 at hf
  refine gz_aload_n (pc := 0) dX1_heldBySome_0 rfl rfl ?_
  refine gz_iconst (v := (-1 : Int32)) (pc := 1) dX1_heldBySome_1 rfl ?_
  refine gz_gk hf (fun c_3 hf => ?_)
  refine gz_cVI (av := [.int (-1 : Int32)]) (st := []) (pc := 2) dX1_heldBySome_2 kl_RX1_93 rfl (gz_shs c_3) rfl rfl (Nat.le_of_ble_eq_true rfl) (by show d + 0 + 1 + 1 ≤ d + 2; omega) (sX1_heldBySet (d := d + 0) (gz_gc hf)) (fun y_2 h_1 hf => ?_)
  exact gz_irt (pc := 5) dX1_heldBySome_5 rfl rfl hf
def fX1_heldBySome (a0 : Nat) (h : gz_H) : Option (Int32 × gz_H) := fX1_heldBySome_0 a0 h
theorem sX1_heldBySome {G : gz_G} {d : Nat} {a0 : Nat} {h : gz_H} {Q : Int32 → gz_H → Prop} (hf : gz_g (fX1_heldBySome a0 h) Q) : gz_Cl G mX1_heldBySome (d + 2) 0 0 [.ref a0] h (gz_qi Q) := gz_cl_of (lo := [.ref a0]) (by decide) rfl rfl (Nat.le_of_ble_eq_true rfl) (sX1_heldBySome_0 a0 h hf)
theorem dX1_heldByNobody_0 : decode cX1_heldByNobody 0 = .ok (.iconst 1, 1) := by decide +kernel
theorem dX1_heldByNobody_1 : decode cX1_heldByNobody 1 = .ok (.aload_n 0, 1) := by decide +kernel
theorem dX1_heldByNobody_2 : decode cX1_heldByNobody 2 = .ok (.getfield 28, 3) := by decide +kernel
theorem dX1_heldByNobody_5 : decode cX1_heldByNobody 5 = .ok (.ishl, 1) := by decide +kernel
theorem dX1_heldByNobody_6 : decode cX1_heldByNobody 6 = .ok (.iconst 1, 1) := by decide +kernel
theorem dX1_heldByNobody_7 : decode cX1_heldByNobody 7 = .ok (.isub, 1) := by decide +kernel
theorem dX1_heldByNobody_8 : decode cX1_heldByNobody 8 = .ok (.aload_n 0, 1) := by decide +kernel
theorem dX1_heldByNobody_9 : decode cX1_heldByNobody 9 = .ok (.invokevirtual 96, 3) := by decide +kernel
theorem dX1_heldByNobody_12 : decode cX1_heldByNobody 12 = .ok (.iconst (-1), 1) := by decide +kernel
theorem dX1_heldByNobody_13 : decode cX1_heldByNobody 13 = .ok (.ixor, 1) := by decide +kernel
theorem dX1_heldByNobody_14 : decode cX1_heldByNobody 14 = .ok (.iand, 1) := by decide +kernel
theorem dX1_heldByNobody_15 : decode cX1_heldByNobody 15 = .ok (.ireturn, 1) := by decide +kernel
def fX1_heldByNobody_0  (a0 : Nat) (h : gz_H) : Option (Int32 × gz_H) :=
    gz_ck (gz_sh h a0 1 4) <|
    gz_b2 (fX1_heldBySome a0 h) fun y_3 h_2 =>
    some ((((1 : Int32) <<< ((h.2.1 a0 2) &&& 31)) - (1 : Int32)) &&& (y_3 ^^^ (-1 : Int32)), h_2)
set_option maxRecDepth 100000 in
set_option maxHeartbeats 1000000 in
theorem sX1_heldByNobody_0 {G : gz_G} {d l0 s0 : Nat} {Q : Int32 → gz_H → Prop} (a0 : Nat) (h : gz_H) (hf : gz_g (fX1_heldByNobody_0  a0 h) Q) : gz_Ok G mX1_heldByNobody (d + 3, l0, s0, 0, 0) 0 [.ref a0] [] h (gz_qi Q) := by
  unfold fX1_heldByNobody_0 at hf
  refine gz_iconst (v := (1 : Int32)) (pc := 0) dX1_heldByNobody_0 rfl ?_
  refine gz_aload_n (pc := 1) dX1_heldByNobody_1 rfl rfl ?_
  refine gz_gk hf (fun c_1 hf => ?_)
  refine gz_getI (pc := 2) dX1_heldByNobody_2 fl_RX1_28 rfl (gz_shs c_1) ?_
  refine gz_ishl (pc := 5) dX1_heldByNobody_5 ?_
  refine gz_iconst (v := (1 : Int32)) (pc := 6) dX1_heldByNobody_6 rfl ?_
  refine gz_isub (pc := 7) dX1_heldByNobody_7 ?_
  refine gz_aload_n (pc := 8) dX1_heldByNobody_8 rfl rfl ?_
  refine gz_cVI (av := []) (st := [.int (((1 : Int32) <<< ((h.2.1 a0 2) &&& 31)) - (1 : Int32))]) (pc := 9) dX1_heldByNobody_9 kl_RX1_96 rfl (gz_shs c_1) rfl rfl (Nat.le_of_ble_eq_true rfl) (by show d + 0 + 2 + 1 ≤ d + 3; omega) (sX1_heldBySome (d := d + 0) (gz_gc hf)) (fun y_3 h_2 hf => ?_)
  refine gz_iconst (v := (-1 : Int32)) (pc := 12) dX1_heldByNobody_12 rfl ?_
  refine gz_ixor (pc := 13) dX1_heldByNobody_13 ?_
  refine gz_iand (pc := 14) dX1_heldByNobody_14 ?_
  exact gz_irt (pc := 15) dX1_heldByNobody_15 rfl rfl hf
def fX1_heldByNobody (a0 : Nat) (h : gz_H) : Option (Int32 × gz_H) := fX1_heldByNobody_0 a0 h
theorem sX1_heldByNobody {G : gz_G} {d : Nat} {a0 : Nat} {h : gz_H} {Q : Int32 → gz_H → Prop} (hf : gz_g (fX1_heldByNobody a0 h) Q) : gz_Cl G mX1_heldByNobody (d + 3) 0 0 [.ref a0] h (gz_qi Q) := gz_cl_of (lo := [.ref a0]) (by decide) rfl rfl (Nat.le_of_ble_eq_true rfl) (sX1_heldByNobody_0 a0 h hf)
theorem dX1_devour_0 : decode cX1_devour 0 = .ok (.aload_n 0, 1) := by decide +kernel
theorem dX1_devour_1 : decode cX1_devour 1 = .ok (.getfield 17, 3) := by decide +kernel
theorem dX1_devour_4 : decode cX1_devour 4 = .ok (.iload_n 1, 1) := by decide +kernel
theorem dX1_devour_5 : decode cX1_devour 5 = .ok (.aaload, 1) := by decide +kernel
theorem dX1_devour_6 : decode cX1_devour 6 = .ok (.astore_n 3, 1) := by decide +kernel
theorem dX1_devour_7 : decode cX1_devour 7 = .ok (.iload_n 2, 1) := by decide +kernel
theorem dX1_devour_8 : decode cX1_devour 8 = .ok (.bipush 15, 2) := by decide +kernel
theorem dX1_devour_10 : decode cX1_devour 10 = .ok (.if_icmp .eq 38, 3) := by decide +kernel
theorem dX1_devour_13 : decode cX1_devour 13 = .ok (.iconst 0, 1) := by decide +kernel
theorem dX1_devour_14 : decode cX1_devour 14 = .ok (.istore 4, 2) := by decide +kernel
theorem dX1_devour_16 : decode cX1_devour 16 = .ok (.iload 4, 2) := by decide +kernel
theorem dX1_devour_18 : decode cX1_devour 18 = .ok (.aload_n 3, 1) := by decide +kernel
theorem dX1_devour_19 : decode cX1_devour 19 = .ok (.getfield 79, 3) := by decide +kernel
theorem dX1_devour_22 : decode cX1_devour 22 = .ok (.if_icmp .ge 26, 3) := by decide +kernel
theorem dX1_devour_25 : decode cX1_devour 25 = .ok (.aload_n 0, 1) := by decide +kernel
theorem dX1_devour_26 : decode cX1_devour 26 = .ok (.getfield 17, 3) := by decide +kernel
theorem dX1_devour_29 : decode cX1_devour 29 = .ok (.iload_n 2, 1) := by decide +kernel
theorem dX1_devour_30 : decode cX1_devour 30 = .ok (.aaload, 1) := by decide +kernel
theorem dX1_devour_31 : decode cX1_devour 31 = .ok (.aload_n 3, 1) := by decide +kernel
theorem dX1_devour_32 : decode cX1_devour 32 = .ok (.getfield 82, 3) := by decide +kernel
theorem dX1_devour_35 : decode cX1_devour 35 = .ok (.iload 4, 2) := by decide +kernel
theorem dX1_devour_37 : decode cX1_devour 37 = .ok (.iaload, 1) := by decide +kernel
theorem dX1_devour_38 : decode cX1_devour 38 = .ok (.invokevirtual 60, 3) := by decide +kernel
theorem dX1_devour_41 : decode cX1_devour 41 = .ok (.pop, 1) := by decide +kernel
theorem dX1_devour_42 : decode cX1_devour 42 = .ok (.iinc 4 1, 3) := by decide +kernel
theorem dX1_devour_45 : decode cX1_devour 45 = .ok (.goto (-29), 3) := by decide +kernel
theorem dX1_devour_48 : decode cX1_devour 48 = .ok (.aload_n 3, 1) := by decide +kernel
theorem dX1_devour_49 : decode cX1_devour 49 = .ok (.invokevirtual 84, 3) := by decide +kernel
theorem dX1_devour_52 : decode cX1_devour 52 = .ok (.aload_n 0, 1) := by decide +kernel
theorem dX1_devour_53 : decode cX1_devour 53 = .ok (.invokevirtual 87, 3) := by decide +kernel
theorem dX1_devour_56 : decode cX1_devour 56 = .ok (.invokestatic 47, 3) := by decide +kernel
theorem dX1_devour_59 : decode cX1_devour 59 = .ok (.ireturn, 1) := by decide +kernel
def fX1_devour_48  (a0 : Nat) (a3 : Nat) (h : gz_H) : Option (Int32 × gz_H) :=
    gz_ck (gz_sh h a3 2 6) <|
    gz_b2 (fX2_leave a3 h) fun _ h_1 =>
    gz_ck (gz_sh h_1 a0 1 4) <|
    gz_b2 (fX1_heldByNobody a0 h_1) fun y_5 h_4 =>
    gz_b2 (fJ6_bitCount_0f7a4 y_5 h_4) fun y_8 h_7 =>
    some (y_8, h_7)
set_option maxRecDepth 100000 in
set_option maxHeartbeats 1000000 in
theorem sX1_devour_48 {G : gz_G} {d l0 s0 : Nat} {Q : Int32 → gz_H → Prop} (a0 : Nat) (a3 : Nat) (h : gz_H) (hf : gz_g (fX1_devour_48  a0 a3 h) Q) : gz_Ok G mX1_devour (d + 4, l0, s0, 0, 0) 48 [.ref a0, .retAddr 0, .retAddr 0, .ref a3, .retAddr 0] [] h (gz_qi Q) := by
  unfold fX1_devour_48 at hf
  refine gz_aload_n (pc := 48) dX1_devour_48 rfl rfl ?_
  refine gz_gk hf (fun c_3 hf => ?_)
  refine gz_cVV (av := []) (st := []) (pc := 49) dX1_devour_49 kl_RX1_84 rfl (gz_shs c_3) rfl rfl (Nat.le_of_ble_eq_true rfl) (by show d + 3 + 0 + 1 ≤ d + 4; omega) (sX2_leave (d := d + 3) (gz_gc hf)) (fun _ h_1 hf => ?_)
  refine gz_aload_n (pc := 52) dX1_devour_52 rfl rfl ?_
  refine gz_gk hf (fun c_6 hf => ?_)
  refine gz_cVI (av := []) (st := []) (pc := 53) dX1_devour_53 kl_RX1_87 rfl (gz_shs c_6) rfl rfl (Nat.le_of_ble_eq_true rfl) (by show d + 0 + 3 + 1 ≤ d + 4; omega) (sX1_heldByNobody (d := d + 0) (gz_gc hf)) (fun y_5 h_4 hf => ?_)
  refine gz_cSI (av := [.int y_5]) (st := []) (pc := 56) dX1_devour_56 kl_RX1_47 rfl rfl (Nat.le_of_ble_eq_true rfl) (by show d + 3 + 0 + 1 ≤ d + 4; omega) (sJ6_bitCount_0f7a4 (d := d + 3) (gz_gc hf)) (fun y_8 h_7 hf => ?_)
  exact gz_irt (pc := 59) dX1_devour_59 rfl rfl hf
def fX1_devour_16  : Nat → Nat → Int32 → Nat → Int32 → gz_H → Option (Int32 × gz_H)
  | 0, _, _, _, _, _ => none
  | n + 1, a0, x2, a3, x4, h =>
    gz_ck (gz_sh h a3 2 6) <|
    if (h.2.1 a3 1) ≤ x4 then (
     fX1_devour_48 a0 a3 h
    ) else (
     gz_ck (gz_sh h a0 1 4) <|
     gz_br (h.2.2.2 a0 1) fun r_4 =>
     gz_ck (gz_inb h r_4 11 x2) <|
     gz_br (h.2.2.2 r_4 x2.toNatClampNeg) fun r_6 =>
     gz_br (h.2.2.2 a3 0) fun r_7 =>
     gz_ck (gz_inb h r_7 10 x4) <|
     gz_ck (gz_sh h r_6 2 6) <|
     gz_b2 (fX2_take r_6 (h.2.1 r_7 x4.toNatClampNeg) h) fun y_10 h_9 =>
     fX1_devour_16 n a0 x2 a3 (x4 + 1) h_9
    )
set_option maxRecDepth 100000 in
set_option maxHeartbeats 1000000 in
theorem sX1_devour_16 {G : gz_G} {d l0 s0 : Nat} {Q : Int32 → gz_H → Prop} : ∀ (n : Nat) (a0 : Nat) (x2 : Int32) (a3 : Nat) (x4 : Int32) (h : gz_H), gz_g (fX1_devour_16  n a0 x2 a3 x4 h) Q → gz_Ok G mX1_devour (d + 4, l0, s0, 0, 0) 16 [.ref a0, .retAddr 0, .int x2, .ref a3, .int x4] [] h (gz_qi Q) := by
  intro n
  induction n with
  | zero => intro a0 x2 a3 x4 h hf; exact False.elim hf
  | succ n ih =>
    intro a0 x2 a3 x4 h hf
    rw [fX1_devour_16] at hf
    refine gz_iload (pc := 16) dX1_devour_16 rfl ?_
    refine gz_aload_n (pc := 18) dX1_devour_18 rfl rfl ?_
    refine gz_gk hf (fun c_1 hf => ?_)
    refine gz_getI (pc := 19) dX1_devour_19 fl_RX1_79 rfl (gz_shs c_1) ?_
    refine gz_icmp_ge (tgt := 48) (pc := 22) dX1_devour_22 rfl (fun c_2 => ?_) (fun c_2 => ?_)
    · have hf := gz_gT hf c_2
      refine gz_fg (lv := [.ref a0, .retAddr 0, .retAddr 0, .ref a3, .retAddr 0]) ⟨Or.inr rfl, ⟨Or.inl rfl, ⟨Or.inl rfl, ⟨Or.inr rfl, ⟨Or.inl rfl, trivial⟩⟩⟩⟩⟩ ?_
      exact sX1_devour_48 a0 a3 h hf
    · have hf := gz_gF hf c_2
      refine gz_aload_n (pc := 25) dX1_devour_25 rfl rfl ?_
      refine gz_gk hf (fun c_3 hf => ?_)
      refine gz_gb hf (fun r_4 er_4 hf => ?_)
      refine gz_getR (pc := 26) dX1_devour_26 fl_RX1_17 rfl (gz_shs c_3) er_4 ?_
      refine gz_iload_n (pc := 29) dX1_devour_29 rfl rfl ?_
      refine gz_gk hf (fun c_5 hf => ?_)
      refine gz_gb hf (fun r_6 er_6 hf => ?_)
      refine gz_aald (Or.inl rfl) (pc := 30) dX1_devour_30 c_5 er_6 ?_
      refine gz_aload_n (pc := 31) dX1_devour_31 rfl rfl ?_
      refine gz_gb hf (fun r_7 er_7 hf => ?_)
      refine gz_getR (pc := 32) dX1_devour_32 fl_RX1_82 rfl (gz_shs c_1) er_7 ?_
      refine gz_iload (pc := 35) dX1_devour_35 rfl ?_
      refine gz_gk hf (fun c_8 hf => ?_)
      refine gz_iald (pc := 37) dX1_devour_37 c_8 ?_
      refine gz_gk hf (fun c_11 hf => ?_)
      refine gz_cVI (av := [.int (h.2.1 r_7 x4.toNatClampNeg)]) (st := []) (pc := 38) dX1_devour_38 kl_RX1_60 rfl (gz_shs c_11) rfl rfl (Nat.le_of_ble_eq_true rfl) (by show d + 2 + 1 + 1 ≤ d + 4; omega) (sX2_take (d := d + 2) (gz_gc hf)) (fun y_10 h_9 hf => ?_)
      refine gz_pop (pc := 41) dX1_devour_41 rfl ?_
      refine gz_iinc (v := x4 + 1) (lv := [.ref a0, .retAddr 0, .int x2, .ref a3, .int (x4 + 1)]) (pc := 42) dX1_devour_42 rfl rfl (by decide) rfl ?_
      refine gz_goto (tgt := 16) (pc := 45) dX1_devour_45 rfl ?_
      exact ih a0 x2 a3 (x4 + 1) h_9 hf
def fX1_devour_0  (a0 : Nat) (x1 : Int32) (x2 : Int32) (h : gz_H) : Option (Int32 × gz_H) :=
    gz_ck (gz_sh h a0 1 4) <|
    gz_br (h.2.2.2 a0 1) fun r_2 =>
    gz_ck (gz_inb h r_2 11 x1) <|
    gz_br (h.2.2.2 r_2 x1.toNatClampNeg) fun r_4 =>
    if x2 = (15 : Int32) then (
     fX1_devour_48 a0 r_4 h
    ) else (
     fX1_devour_16 gz_fu a0 x2 r_4 (0 : Int32) h
    )
set_option maxRecDepth 100000 in
set_option maxHeartbeats 1000000 in
theorem sX1_devour_0 {G : gz_G} {d l0 s0 : Nat} {Q : Int32 → gz_H → Prop} (a0 : Nat) (x1 : Int32) (x2 : Int32) (h : gz_H) (hf : gz_g (fX1_devour_0  a0 x1 x2 h) Q) : gz_Ok G mX1_devour (d + 4, l0, s0, 0, 0) 0 [.ref a0, .int x1, .int x2, .retAddr 0, .retAddr 0] [] h (gz_qi Q) := by
  unfold fX1_devour_0 at hf
  refine gz_aload_n (pc := 0) dX1_devour_0 rfl rfl ?_
  refine gz_gk hf (fun c_1 hf => ?_)
  refine gz_gb hf (fun r_2 er_2 hf => ?_)
  refine gz_getR (pc := 1) dX1_devour_1 fl_RX1_17 rfl (gz_shs c_1) er_2 ?_
  refine gz_iload_n (pc := 4) dX1_devour_4 rfl rfl ?_
  refine gz_gk hf (fun c_3 hf => ?_)
  refine gz_gb hf (fun r_4 er_4 hf => ?_)
  refine gz_aald (Or.inl rfl) (pc := 5) dX1_devour_5 c_3 er_4 ?_
  refine gz_astore_n (lv := [.ref a0, .int x1, .int x2, .ref r_4, .retAddr 0]) (pc := 6) dX1_devour_6 rfl (by decide) rfl ?_
  refine gz_iload_n (pc := 7) dX1_devour_7 rfl rfl ?_
  refine gz_bipush (v := (15 : Int32)) (pc := 8) dX1_devour_8 rfl ?_
  refine gz_icmp_eq (tgt := 48) (pc := 10) dX1_devour_10 rfl (fun c_5 => ?_) (fun c_5 => ?_)
  · have hf := gz_gT hf c_5
    refine gz_fg (lv := [.ref a0, .retAddr 0, .retAddr 0, .ref r_4, .retAddr 0]) ⟨Or.inr rfl, ⟨Or.inl rfl, ⟨Or.inl rfl, ⟨Or.inr rfl, ⟨Or.inl rfl, trivial⟩⟩⟩⟩⟩ ?_
    exact sX1_devour_48 a0 r_4 h hf
  · have hf := gz_gF hf c_5
    refine gz_iconst (v := (0 : Int32)) (pc := 13) dX1_devour_13 rfl ?_
    refine gz_istore (lv := [.ref a0, .int x1, .int x2, .ref r_4, .int (0 : Int32)]) (pc := 14) dX1_devour_14 (by decide) rfl ?_
    refine gz_fg (lv := [.ref a0, .retAddr 0, .int x2, .ref r_4, .int (0 : Int32)]) ⟨Or.inr rfl, ⟨Or.inl rfl, ⟨Or.inr rfl, ⟨Or.inr rfl, ⟨Or.inr rfl, trivial⟩⟩⟩⟩⟩ ?_
    exact sX1_devour_16 gz_fu a0 x2 r_4 (0 : Int32) h hf
def fX1_devour (a0 : Nat) (x1 : Int32) (x2 : Int32) (h : gz_H) : Option (Int32 × gz_H) := fX1_devour_0 a0 x1 x2 h
theorem sX1_devour {G : gz_G} {d : Nat} {a0 : Nat} {x1 : Int32} {x2 : Int32} {h : gz_H} {Q : Int32 → gz_H → Prop} (hf : gz_g (fX1_devour a0 x1 x2 h) Q) : gz_Cl G mX1_devour (d + 4) 0 0 [.ref a0, .int x1, .int x2] h (gz_qi Q) := gz_cl_of (lo := [.ref a0, .int x1, .int x2, .retAddr 0, .retAddr 0]) (by decide) rfl rfl (Nat.le_of_ble_eq_true rfl) (sX1_devour_0 a0 x1 x2 h hf)
theorem dX1_perform_0 : decode cX1_perform 0 = .ok (.iload_n 1, 1) := by decide +kernel
theorem dX1_perform_1 : decode cX1_perform 1 = .ok (.tableswitch 55 0 2 #[27, 38, 48], 27) := by decide +kernel
theorem dX1_perform_28 : decode cX1_perform 28 = .ok (.aload_n 0, 1) := by decide +kernel
theorem dX1_perform_29 : decode cX1_perform 29 = .ok (.getfield 17, 3) := by decide +kernel
theorem dX1_perform_32 : decode cX1_perform 32 = .ok (.iload_n 2, 1) := by decide +kernel
theorem dX1_perform_33 : decode cX1_perform 33 = .ok (.aaload, 1) := by decide +kernel
theorem dX1_perform_34 : decode cX1_perform 34 = .ok (.iload_n 3, 1) := by decide +kernel
theorem dX1_perform_35 : decode cX1_perform 35 = .ok (.invokevirtual 60, 3) := by decide +kernel
theorem dX1_perform_38 : decode cX1_perform 38 = .ok (.ireturn, 1) := by decide +kernel
theorem dX1_perform_39 : decode cX1_perform 39 = .ok (.aload_n 0, 1) := by decide +kernel
theorem dX1_perform_40 : decode cX1_perform 40 = .ok (.getfield 17, 3) := by decide +kernel
theorem dX1_perform_43 : decode cX1_perform 43 = .ok (.iload_n 2, 1) := by decide +kernel
theorem dX1_perform_44 : decode cX1_perform 44 = .ok (.aaload, 1) := by decide +kernel
theorem dX1_perform_45 : decode cX1_perform 45 = .ok (.invokevirtual 63, 3) := by decide +kernel
theorem dX1_perform_48 : decode cX1_perform 48 = .ok (.ireturn, 1) := by decide +kernel
theorem dX1_perform_49 : decode cX1_perform 49 = .ok (.aload_n 0, 1) := by decide +kernel
theorem dX1_perform_50 : decode cX1_perform 50 = .ok (.iload_n 2, 1) := by decide +kernel
theorem dX1_perform_51 : decode cX1_perform 51 = .ok (.iload_n 3, 1) := by decide +kernel
theorem dX1_perform_52 : decode cX1_perform 52 = .ok (.invokevirtual 66, 3) := by decide +kernel
theorem dX1_perform_55 : decode cX1_perform 55 = .ok (.ireturn, 1) := by decide +kernel
theorem dX1_perform_56 : decode cX1_perform 56 = .ok (.aload_n 0, 1) := by decide +kernel
theorem dX1_perform_57 : decode cX1_perform 57 = .ok (.iload_n 2, 1) := by decide +kernel
theorem dX1_perform_58 : decode cX1_perform 58 = .ok (.iload_n 3, 1) := by decide +kernel
theorem dX1_perform_59 : decode cX1_perform 59 = .ok (.invokevirtual 70, 3) := by decide +kernel
theorem dX1_perform_62 : decode cX1_perform 62 = .ok (.ireturn, 1) := by decide +kernel
def fX1_perform_0  (a0 : Nat) (x1 : Int32) (x2 : Int32) (x3 : Int32) (h : gz_H) : Option (Int32 × gz_H) :=
    if x1 = (0 : Int32) then (
     gz_ck (gz_sh h a0 1 4) <|
     gz_br (h.2.2.2 a0 1) fun r_3 =>
     gz_ck (gz_inb h r_3 11 x2) <|
     gz_br (h.2.2.2 r_3 x2.toNatClampNeg) fun r_5 =>
     gz_ck (gz_sh h r_5 2 6) <|
     gz_b2 (fX2_take r_5 x3 h) fun y_7 h_6 =>
     some (y_7, h_6)
    ) else (
    if x1 = (1 : Int32) then (
     gz_ck (gz_sh h a0 1 4) <|
     gz_br (h.2.2.2 a0 1) fun r_11 =>
     gz_ck (gz_inb h r_11 11 x2) <|
     gz_br (h.2.2.2 r_11 x2.toNatClampNeg) fun r_13 =>
     gz_ck (gz_sh h r_13 2 6) <|
     gz_b2 (fX2_loseNewest r_13 h) fun y_15 h_14 =>
     some (y_15, h_14)
    ) else (
    if x1 = (2 : Int32) then (
     gz_ck (gz_sh h a0 1 4) <|
     gz_b2 (fX1_mixAtPond a0 x2 x3 h) fun y_19 h_18 =>
     some (y_19, h_18)
    ) else (
    gz_ck (gz_sh h a0 1 4) <|
    gz_b2 (fX1_devour a0 x2 x3 h) fun y_22 h_21 =>
    some (y_22, h_21)
    )))
set_option maxRecDepth 100000 in
set_option maxHeartbeats 1000000 in
theorem sX1_perform_0 {G : gz_G} {d l0 s0 : Nat} {Q : Int32 → gz_H → Prop} (a0 : Nat) (x1 : Int32) (x2 : Int32) (x3 : Int32) (h : gz_H) (hf : gz_g (fX1_perform_0  a0 x1 x2 x3 h) Q) : gz_Ok G mX1_perform (d + 5, l0, s0, 0, 0) 0 [.ref a0, .int x1, .int x2, .int x3] [] h (gz_qi Q) := by
  unfold fX1_perform_0 at hf
  refine gz_iload_n (pc := 0) dX1_perform_0 rfl rfl ?_
  by_cases c_1 : x1 = (0 : Int32)
  · have hf := gz_gT hf c_1
    refine gz_tIn (off := 27) (tgt := 28) (pc := 1) dX1_perform_1 (by rw [c_1]; decide) (by rw [c_1]; decide) (by rw [c_1]; decide) rfl ?_
    refine gz_aload_n (pc := 28) dX1_perform_28 rfl rfl ?_
    refine gz_gk hf (fun c_2 hf => ?_)
    refine gz_gb hf (fun r_3 er_3 hf => ?_)
    refine gz_getR (pc := 29) dX1_perform_29 fl_RX1_17 rfl (gz_shs c_2) er_3 ?_
    refine gz_iload_n (pc := 32) dX1_perform_32 rfl rfl ?_
    refine gz_gk hf (fun c_4 hf => ?_)
    refine gz_gb hf (fun r_5 er_5 hf => ?_)
    refine gz_aald (Or.inl rfl) (pc := 33) dX1_perform_33 c_4 er_5 ?_
    refine gz_iload_n (pc := 34) dX1_perform_34 rfl rfl ?_
    refine gz_gk hf (fun c_8 hf => ?_)
    refine gz_cVI (av := [.int x3]) (st := []) (pc := 35) dX1_perform_35 kl_RX1_60 rfl (gz_shs c_8) rfl rfl (Nat.le_of_ble_eq_true rfl) (by show d + 3 + 1 + 1 ≤ d + 5; omega) (sX2_take (d := d + 3) (gz_gc hf)) (fun y_7 h_6 hf => ?_)
    exact gz_irt (pc := 38) dX1_perform_38 rfl rfl hf
  have hf := gz_gF hf c_1
  by_cases c_9 : x1 = (1 : Int32)
  · have hf := gz_gT hf c_9
    refine gz_tIn (off := 38) (tgt := 39) (pc := 1) dX1_perform_1 (by rw [c_9]; decide) (by rw [c_9]; decide) (by rw [c_9]; decide) rfl ?_
    refine gz_aload_n (pc := 39) dX1_perform_39 rfl rfl ?_
    refine gz_gk hf (fun c_10 hf => ?_)
    refine gz_gb hf (fun r_11 er_11 hf => ?_)
    refine gz_getR (pc := 40) dX1_perform_40 fl_RX1_17 rfl (gz_shs c_10) er_11 ?_
    refine gz_iload_n (pc := 43) dX1_perform_43 rfl rfl ?_
    refine gz_gk hf (fun c_12 hf => ?_)
    refine gz_gb hf (fun r_13 er_13 hf => ?_)
    refine gz_aald (Or.inl rfl) (pc := 44) dX1_perform_44 c_12 er_13 ?_
    refine gz_gk hf (fun c_16 hf => ?_)
    refine gz_cVI (av := []) (st := []) (pc := 45) dX1_perform_45 kl_RX1_63 rfl (gz_shs c_16) rfl rfl (Nat.le_of_ble_eq_true rfl) (by show d + 3 + 1 + 1 ≤ d + 5; omega) (sX2_loseNewest (d := d + 3) (gz_gc hf)) (fun y_15 h_14 hf => ?_)
    exact gz_irt (pc := 48) dX1_perform_48 rfl rfl hf
  have hf := gz_gF hf c_9
  by_cases c_17 : x1 = (2 : Int32)
  · have hf := gz_gT hf c_17
    refine gz_tIn (off := 48) (tgt := 49) (pc := 1) dX1_perform_1 (by rw [c_17]; decide) (by rw [c_17]; decide) (by rw [c_17]; decide) rfl ?_
    refine gz_aload_n (pc := 49) dX1_perform_49 rfl rfl ?_
    refine gz_iload_n (pc := 50) dX1_perform_50 rfl rfl ?_
    refine gz_iload_n (pc := 51) dX1_perform_51 rfl rfl ?_
    refine gz_gk hf (fun c_20 hf => ?_)
    refine gz_cVI (av := [.int x2, .int x3]) (st := []) (pc := 52) dX1_perform_52 kl_RX1_66 rfl (gz_shs c_20) rfl rfl (Nat.le_of_ble_eq_true rfl) (by show d + 2 + 2 + 1 ≤ d + 5; omega) (sX1_mixAtPond (d := d + 2) (gz_gc hf)) (fun y_19 h_18 hf => ?_)
    exact gz_irt (pc := 55) dX1_perform_55 rfl rfl hf
  have hf := gz_gF hf c_17
  refine gz_tOut (tgt := 56) (pc := 1) dX1_perform_1 (gz_tout 3 (fun k hk => match k, hk with | 0, _ => c_1 | 1, _ => c_9 | 2, _ => c_17 | k + 3, hk => absurd hk (by omega))) rfl ?_
  refine gz_aload_n (pc := 56) dX1_perform_56 rfl rfl ?_
  refine gz_iload_n (pc := 57) dX1_perform_57 rfl rfl ?_
  refine gz_iload_n (pc := 58) dX1_perform_58 rfl rfl ?_
  refine gz_gk hf (fun c_23 hf => ?_)
  refine gz_cVI (av := [.int x2, .int x3]) (st := []) (pc := 59) dX1_perform_59 kl_RX1_70 rfl (gz_shs c_23) rfl rfl (Nat.le_of_ble_eq_true rfl) (by show d + 0 + 4 + 1 ≤ d + 5; omega) (sX1_devour (d := d + 0) (gz_gc hf)) (fun y_22 h_21 hf => ?_)
  exact gz_irt (pc := 62) dX1_perform_62 rfl rfl hf
def fX1_perform (a0 : Nat) (x1 : Int32) (x2 : Int32) (x3 : Int32) (h : gz_H) : Option (Int32 × gz_H) := fX1_perform_0 a0 x1 x2 x3 h
theorem sX1_perform {G : gz_G} {d : Nat} {a0 : Nat} {x1 : Int32} {x2 : Int32} {x3 : Int32} {h : gz_H} {Q : Int32 → gz_H → Prop} (hf : gz_g (fX1_perform a0 x1 x2 x3 h) Q) : gz_Cl G mX1_perform (d + 5) 0 0 [.ref a0, .int x1, .int x2, .int x3] h (gz_qi Q) := gz_cl_of (lo := [.ref a0, .int x1, .int x2, .int x3]) (by decide) rfl rfl (Nat.le_of_ble_eq_true rfl) (sX1_perform_0 a0 x1 x2 x3 h hf)
theorem dX1_heldOnlyBy_0 : decode cX1_heldOnlyBy 0 = .ok (.aload_n 0, 1) := by decide +kernel
theorem dX1_heldOnlyBy_1 : decode cX1_heldOnlyBy 1 = .ok (.getfield 17, 3) := by decide +kernel
theorem dX1_heldOnlyBy_4 : decode cX1_heldOnlyBy 4 = .ok (.iload_n 1, 1) := by decide +kernel
theorem dX1_heldOnlyBy_5 : decode cX1_heldOnlyBy 5 = .ok (.aaload, 1) := by decide +kernel
theorem dX1_heldOnlyBy_6 : decode cX1_heldOnlyBy 6 = .ok (.invokevirtual 90, 3) := by decide +kernel
theorem dX1_heldOnlyBy_9 : decode cX1_heldOnlyBy 9 = .ok (.aload_n 0, 1) := by decide +kernel
theorem dX1_heldOnlyBy_10 : decode cX1_heldOnlyBy 10 = .ok (.iconst 1, 1) := by decide +kernel
theorem dX1_heldOnlyBy_11 : decode cX1_heldOnlyBy 11 = .ok (.iload_n 1, 1) := by decide +kernel
theorem dX1_heldOnlyBy_12 : decode cX1_heldOnlyBy 12 = .ok (.ishl, 1) := by decide +kernel
theorem dX1_heldOnlyBy_13 : decode cX1_heldOnlyBy 13 = .ok (.iconst (-1), 1) := by decide +kernel
theorem dX1_heldOnlyBy_14 : decode cX1_heldOnlyBy 14 = .ok (.ixor, 1) := by decide +kernel
theorem dX1_heldOnlyBy_15 : decode cX1_heldOnlyBy 15 = .ok (.invokevirtual 93, 3) := by decide +kernel
theorem dX1_heldOnlyBy_18 : decode cX1_heldOnlyBy 18 = .ok (.iconst (-1), 1) := by decide +kernel
theorem dX1_heldOnlyBy_19 : decode cX1_heldOnlyBy 19 = .ok (.ixor, 1) := by decide +kernel
theorem dX1_heldOnlyBy_20 : decode cX1_heldOnlyBy 20 = .ok (.iand, 1) := by decide +kernel
theorem dX1_heldOnlyBy_21 : decode cX1_heldOnlyBy 21 = .ok (.ireturn, 1) := by decide +kernel
def fX1_heldOnlyBy_0  (a0 : Nat) (x1 : Int32) (h : gz_H) : Option (Int32 × gz_H) :=
    gz_ck (gz_sh h a0 1 4) <|
    gz_br (h.2.2.2 a0 1) fun r_2 =>
    gz_ck (gz_inb h r_2 11 x1) <|
    gz_br (h.2.2.2 r_2 x1.toNatClampNeg) fun r_4 =>
    gz_ck (gz_sh h r_4 2 6) <|
    gz_b2 (fX2_set r_4 h) fun y_6 h_5 =>
    gz_ck (gz_sh h_5 a0 1 4) <|
    gz_b2 (fX1_heldBySet a0 (((1 : Int32) <<< (x1 &&& 31)) ^^^ (-1 : Int32)) h_5) fun y_9 h_8 =>
    some (y_6 &&& (y_9 ^^^ (-1 : Int32)), h_8)
set_option maxRecDepth 100000 in
set_option maxHeartbeats 1000000 in
theorem sX1_heldOnlyBy_0 {G : gz_G} {d l0 s0 : Nat} {Q : Int32 → gz_H → Prop} (a0 : Nat) (x1 : Int32) (h : gz_H) (hf : gz_g (fX1_heldOnlyBy_0  a0 x1 h) Q) : gz_Ok G mX1_heldOnlyBy (d + 2, l0, s0, 0, 0) 0 [.ref a0, .int x1] [] h (gz_qi Q) := by
  unfold fX1_heldOnlyBy_0 at hf
  refine gz_aload_n (pc := 0) dX1_heldOnlyBy_0 rfl rfl ?_
  refine gz_gk hf (fun c_1 hf => ?_)
  refine gz_gb hf (fun r_2 er_2 hf => ?_)
  refine gz_getR (pc := 1) dX1_heldOnlyBy_1 fl_RX1_17 rfl (gz_shs c_1) er_2 ?_
  refine gz_iload_n (pc := 4) dX1_heldOnlyBy_4 rfl rfl ?_
  refine gz_gk hf (fun c_3 hf => ?_)
  refine gz_gb hf (fun r_4 er_4 hf => ?_)
  refine gz_aald (Or.inl rfl) (pc := 5) dX1_heldOnlyBy_5 c_3 er_4 ?_
  refine gz_gk hf (fun c_7 hf => ?_)
  refine gz_cVI (av := []) (st := []) (pc := 6) dX1_heldOnlyBy_6 kl_RX1_90 rfl (gz_shs c_7) rfl rfl (Nat.le_of_ble_eq_true rfl) (by show d + 1 + 0 + 1 ≤ d + 2; omega) (sX2_set (d := d + 1) (gz_gc hf)) (fun y_6 h_5 hf => ?_)
  refine gz_aload_n (pc := 9) dX1_heldOnlyBy_9 rfl rfl ?_
  refine gz_iconst (v := (1 : Int32)) (pc := 10) dX1_heldOnlyBy_10 rfl ?_
  refine gz_iload_n (pc := 11) dX1_heldOnlyBy_11 rfl rfl ?_
  refine gz_ishl (pc := 12) dX1_heldOnlyBy_12 ?_
  refine gz_iconst (v := (-1 : Int32)) (pc := 13) dX1_heldOnlyBy_13 rfl ?_
  refine gz_ixor (pc := 14) dX1_heldOnlyBy_14 ?_
  refine gz_gk hf (fun c_10 hf => ?_)
  refine gz_cVI (av := [.int (((1 : Int32) <<< (x1 &&& 31)) ^^^ (-1 : Int32))]) (st := [.int y_6]) (pc := 15) dX1_heldOnlyBy_15 kl_RX1_93 rfl (gz_shs c_10) rfl rfl (Nat.le_of_ble_eq_true rfl) (by show d + 0 + 1 + 1 ≤ d + 2; omega) (sX1_heldBySet (d := d + 0) (gz_gc hf)) (fun y_9 h_8 hf => ?_)
  refine gz_iconst (v := (-1 : Int32)) (pc := 18) dX1_heldOnlyBy_18 rfl ?_
  refine gz_ixor (pc := 19) dX1_heldOnlyBy_19 ?_
  refine gz_iand (pc := 20) dX1_heldOnlyBy_20 ?_
  exact gz_irt (pc := 21) dX1_heldOnlyBy_21 rfl rfl hf
def fX1_heldOnlyBy (a0 : Nat) (x1 : Int32) (h : gz_H) : Option (Int32 × gz_H) := fX1_heldOnlyBy_0 a0 x1 h
theorem sX1_heldOnlyBy {G : gz_G} {d : Nat} {a0 : Nat} {x1 : Int32} {h : gz_H} {Q : Int32 → gz_H → Prop} (hf : gz_g (fX1_heldOnlyBy a0 x1 h) Q) : gz_Cl G mX1_heldOnlyBy (d + 2) 0 0 [.ref a0, .int x1] h (gz_qi Q) := gz_cl_of (lo := [.ref a0, .int x1]) (by decide) rfl rfl (Nat.le_of_ble_eq_true rfl) (sX1_heldOnlyBy_0 a0 x1 h hf)
theorem dX2_hasFact_0 : decode cX2_hasFact 0 = .ok (.aload_n 0, 1) := by decide +kernel
theorem dX2_hasFact_1 : decode cX2_hasFact 1 = .ok (.iload_n 1, 1) := by decide +kernel
theorem dX2_hasFact_2 : decode cX2_hasFact 2 = .ok (.invokevirtual 42, 3) := by decide +kernel
theorem dX2_hasFact_5 : decode cX2_hasFact 5 = .ok (.bipush (-9), 2) := by decide +kernel
theorem dX2_hasFact_7 : decode cX2_hasFact 7 = .ok (.if_icmp .eq 7, 3) := by decide +kernel
theorem dX2_hasFact_10 : decode cX2_hasFact 10 = .ok (.iconst 1, 1) := by decide +kernel
theorem dX2_hasFact_11 : decode cX2_hasFact 11 = .ok (.goto 4, 3) := by decide +kernel
theorem dX2_hasFact_14 : decode cX2_hasFact 14 = .ok (.iconst 0, 1) := by decide +kernel
theorem dX2_hasFact_15 : decode cX2_hasFact 15 = .ok (.ireturn, 1) := by decide +kernel
def fX2_hasFact_0  (a0 : Nat) (x1 : Int32) (h : gz_H) : Option (Int32 × gz_H) :=
    gz_ck (gz_sh h a0 2 6) <|
    gz_b2 (fX2_placeInOrder a0 x1 h) fun y_2 h_1 =>
    if y_2 = (-9 : Int32) then (
     some ((0 : Int32), h_1)
    ) else (
     some ((1 : Int32), h_1)
    )
set_option maxRecDepth 100000 in
set_option maxHeartbeats 1000000 in
theorem sX2_hasFact_0 {G : gz_G} {d l0 s0 : Nat} {Q : Int32 → gz_H → Prop} (a0 : Nat) (x1 : Int32) (h : gz_H) (hf : gz_g (fX2_hasFact_0  a0 x1 h) Q) : gz_Ok G mX2_hasFact (d + 1, l0, s0, 0, 0) 0 [.ref a0, .int x1] [] h (gz_qi Q) := by
  unfold fX2_hasFact_0 at hf
  refine gz_aload_n (pc := 0) dX2_hasFact_0 rfl rfl ?_
  refine gz_iload_n (pc := 1) dX2_hasFact_1 rfl rfl ?_
  refine gz_gk hf (fun c_3 hf => ?_)
  refine gz_cVI (av := [.int x1]) (st := []) (pc := 2) dX2_hasFact_2 kl_RX2_42 rfl (gz_shs c_3) rfl rfl (Nat.le_of_ble_eq_true rfl) (by show d + 0 + 0 + 1 ≤ d + 1; omega) (sX2_placeInOrder (d := d + 0) (gz_gc hf)) (fun y_2 h_1 hf => ?_)
  refine gz_bipush (v := (-9 : Int32)) (pc := 5) dX2_hasFact_5 rfl ?_
  refine gz_icmp_eq (tgt := 14) (pc := 7) dX2_hasFact_7 rfl (fun c_4 => ?_) (fun c_4 => ?_)
  · have hf := gz_gT hf c_4
    refine gz_iconst (v := (0 : Int32)) (pc := 14) dX2_hasFact_14 rfl ?_
    exact gz_irt (pc := 15) dX2_hasFact_15 rfl rfl hf
  · have hf := gz_gF hf c_4
    refine gz_iconst (v := (1 : Int32)) (pc := 10) dX2_hasFact_10 rfl ?_
    refine gz_goto (tgt := 15) (pc := 11) dX2_hasFact_11 rfl ?_
    exact gz_irt (pc := 15) dX2_hasFact_15 rfl rfl hf
def fX2_hasFact (a0 : Nat) (x1 : Int32) (h : gz_H) : Option (Int32 × gz_H) := fX2_hasFact_0 a0 x1 h
theorem sX2_hasFact {G : gz_G} {d : Nat} {a0 : Nat} {x1 : Int32} {h : gz_H} {Q : Int32 → gz_H → Prop} (hf : gz_g (fX2_hasFact a0 x1 h) Q) : gz_Cl G mX2_hasFact (d + 1) 0 0 [.ref a0, .int x1] h (gz_qi Q) := gz_cl_of (lo := [.ref a0, .int x1]) (by decide) rfl rfl (Nat.le_of_ble_eq_true rfl) (sX2_hasFact_0 a0 x1 h hf)
