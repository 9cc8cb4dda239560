/-! PURE: the start -/
def gz_h0 : gz_H := ([], fun _ _ => 0, fun _ _ => 0, fun _ _ => none)
def in_x : Option (Unit × gz_H) := fX8_init 84 1419 0 (gz_al gz_h0 (8, 19))
theorem in_x1 : in_x.isSome = true := by decide +kernel
theorem get2 {o : Option (Unit × gz_H)} (e : o.isSome = true) : o = some ((), (o.get e).2) := by
  cases o with
  | none => exact absurd e (by decide)
  | some x => rfl
def in_3 : gz_H := (in_x.get in_x1).2
theorem in_x2 : in_x = some ((), in_3) := get2 in_x1
theorem in_3l : in_3.1.length = 85 := by decide +kernel
def in_m : Option (Unit × gz_H) := fX9_init 17 10006 85 (gz_al in_3 (9, 29))
theorem in_m1 : in_m.isSome = true := by decide +kernel
def in_h : gz_H := (in_m.get in_m1).2
theorem in_m2 : in_m = some ((), in_h) := get2 in_m1
theorem in_La : gz_La in_h := ⟨by decide +kernel, by decide +kernel⟩
theorem in_Fx : gz_Fx in_h := ⟨by decide +kernel, by decide +kernel⟩
theorem in_r1 : ∀ r : Fin 6, in_h.2.1 9 r.1 = in_h.2.1 91 r.1 ∧ in_h.2.1 9 r.1 = -1 := by decide +kernel
theorem in_r2 : ∀ r : Fin 6, ∀ k : Fin 40, in_h.2.1 (3 + r.1) k.1 = in_h.2.1 92 (40 * r.1 + k.1) := by decide +kernel
theorem in_t1 : ∀ r : Fin 4, in_h.2.1 16 r.1 = in_h.2.1 93 r.1 ∧ in_h.2.1 16 r.1 = -1 := by decide +kernel
theorem in_t2 : ∀ r : Fin 4, ∀ k : Fin 80, in_h.2.1 (12 + r.1) k.1 = in_h.2.1 94 (80 * r.1 + k.1) := by decide +kernel
theorem in_s1 : in_h.2.1 0 18 = in_h.2.1 85 11 ∧ in_h.2.1 18 1 = in_h.2.1 85 14 := by decide +kernel
theorem in_s2 : ∀ f : Fin 6, in_h.2.1 19 f.1 = in_h.2.1 95 f.1 := by decide +kernel
theorem in_s3 : in_h.2.2.1 20 0 = in_h.2.2.1 85 12 ∧ in_h.2.2.1 20 1 = in_h.2.2.1 85 13 := by decide +kernel
theorem in_rf : in_h.2.2.2 0 10 = some 43 ∧ in_h.2.2.2 0 11 = some 58 := by decide +kernel
theorem in_fl : in_h.2.1 43 2 = nI 0 ∧ in_h.2.1 43 3 = nI 0 ∧ in_h.2.1 28 2 = nI 0 ∧ in_h.2.1 28 3 = nI 0 ∧ in_h.2.1 25 1 = nI 0 ∧ in_h.2.1 85 1 = nI 0 ∧ in_h.2.1 85 3 = nI 0 ∧ in_h.2.1 86 0 = nI 0 ∧ in_h.2.1 86 1 = nI 0 := by decide +kernel
theorem in_kp : ∀ k : Fin 3, in_h.2.1 (79 + 2 * k.1) 1 = -1 ∧ in_h.2.1 86 (2256 * (k.1 + 1)) = -1 := by decide +kernel
theorem iv_of {h : gz_H} (La : gz_La h) (Fx : gz_Fx h) (r1 : ∀ r : Fin 6, h.2.1 9 r.1 = h.2.1 91 r.1 ∧ h.2.1 9 r.1 = -1) (r2 : ∀ r : Fin 6, ∀ k : Fin 40, h.2.1 (3 + r.1) k.1 = h.2.1 92 (40 * r.1 + k.1)) (t1 : ∀ r : Fin 4, h.2.1 16 r.1 = h.2.1 93 r.1 ∧ h.2.1 16 r.1 = -1) (t2 : ∀ r : Fin 4, ∀ k : Fin 80, h.2.1 (12 + r.1) k.1 = h.2.1 94 (80 * r.1 + k.1)) (s1 : h.2.1 0 18 = h.2.1 85 11 ∧ h.2.1 18 1 = h.2.1 85 14) (s2 : ∀ f : Fin 6, h.2.1 19 f.1 = h.2.1 95 f.1) (s3 : h.2.2.1 20 0 = h.2.2.1 85 12 ∧ h.2.2.1 20 1 = h.2.2.1 85 13) (rf : h.2.2.2 0 10 = some 43 ∧ h.2.2.2 0 11 = some 58) (fl : h.2.1 43 2 = nI 0 ∧ h.2.1 43 3 = nI 0 ∧ h.2.1 28 2 = nI 0 ∧ h.2.1 28 3 = nI 0 ∧ h.2.1 25 1 = nI 0 ∧ h.2.1 85 1 = nI 0 ∧ h.2.1 85 3 = nI 0 ∧ h.2.1 86 0 = nI 0 ∧ h.2.1 86 1 = nI 0) (kp : ∀ k : Fin 3, h.2.1 (79 + 2 * k.1) 1 = -1 ∧ h.2.1 86 (2256 * (k.1 + 1)) = -1) : gz_Iv h := by
  obtain ⟨f1, f2, f3, f4, f5, f6, f7, f8, f9⟩ := fl
  refine ⟨⟨La, Fx, fun r hr => ⟨(r1 ⟨r, hr⟩).1, Or.inl (r1 ⟨r, hr⟩).2, fun k hk => r2 ⟨r, hr⟩ ⟨k, hk⟩⟩, fun r hr => ⟨(t1 ⟨r, hr⟩).1, Or.inl (t1 ⟨r, hr⟩).2, fun k hk => t2 ⟨r, hr⟩ ⟨k, hk⟩⟩, s1.1, s1.2, fun f hf => s2 ⟨f, hf⟩, s3.1, s3.2⟩, (0, 0, fun _ => 0, fun _ => 0, fun _ => 0, fun _ => 0), fun _ => ([], false), [], fun _ => none, 43, ⟨⟨Nat.zero_le 8, Nat.zero_le 6, ⟨fun _ => rfl, fun _ => rfl⟩, fun f hf => absurd hf (Nat.not_lt_zero f), fun i hi => absurd hi (Nat.not_lt_zero i)⟩, fun i hi => absurd hi (Nat.not_lt_zero i), fun i hi => rfl, gl_nil (fun i hi => absurd hi (Nat.not_lt_zero i)), fun k es hk z => absurd z (by simp)⟩, ⟨Or.inl rfl, rf.1, rf.2⟩, ⟨⟨f1, f2, fun k hk => absurd hk (Nat.not_lt_zero k), fun i hi => absurd hi (Nat.not_lt_zero i)⟩, ⟨f3, f4, fun k hk => absurd hk (Nat.not_lt_zero k), fun i hi => absurd hi (Nat.not_lt_zero i)⟩, ⟨f5, fun k hk => absurd hk (by simp)⟩, fun k hk => (kp ⟨k, hk⟩).1⟩, ⟨⟨f6, f7, fun k hk => absurd hk (Nat.not_lt_zero k), fun i hi => absurd hi (Nat.not_lt_zero i)⟩, ⟨f8, ⟨f9, fun i hi => absurd hi (Nat.not_lt_zero i)⟩, fun n hn => absurd hn (by simp)⟩, fun k hk => (kp ⟨k, hk⟩).2⟩⟩
theorem in_Iv : gz_Iv in_h := iv_of in_La in_Fx in_r1 in_r2 in_t1 in_t2 in_s1 in_s2 in_s3 in_rf in_fl in_kp
theorem op_init (G : gz_G) : ∃ h, gz_Iv h ∧ fL_law_0 G 0 0 103 11473 gz_h0 = fL_law_18 G 0 0 103 11473 gz_fu 0 85 (0 : Int32) h := by
  refine ⟨in_h, in_Iv, ?_⟩
  have e1 : fX8_init 84 1419 gz_h0.1.length (gz_al gz_h0 (8, 19)) = some ((), in_3) := in_x2
  have e2 : fX9_init 17 10006 85 (gz_al in_3 (9, 29)) = some ((), in_h) := in_m2
  unfold fL_law_0
  rw [ck_t (by decide +kernel), lt_d, ck_t (by decide +kernel), e1, b2_s, ck_t (by decide +kernel), lt_d, ck_t (by decide +kernel), in_3l, e2, b2_s]
  rfl
