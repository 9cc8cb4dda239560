section
/-! PURE: rows for the evaluator (printed by wip/gen/ev.py) -/
section
variable {h : gz_H} {j : Nat}
theorem rf_0_0 (H : gz_La h) : h.2.2.2 0 0 = some 1 := H.rf 0 0 1 (by decide)
theorem rf_0_1 (H : gz_La h) : h.2.2.2 0 1 = some 10 := H.rf 0 1 10 (by decide)
theorem rf_0_2 (H : gz_La h) : h.2.2.2 0 2 = some 17 := H.rf 0 2 17 (by decide)
theorem rf_0_3 (H : gz_La h) : h.2.2.2 0 3 = some 18 := H.rf 0 3 18 (by decide)
theorem rf_0_4 (H : gz_La h) : h.2.2.2 0 4 = some 20 := H.rf 0 4 20 (by decide)
theorem rf_0_5 (H : gz_La h) : h.2.2.2 0 5 = some 21 := H.rf 0 5 21 (by decide)
theorem rf_0_6 (H : gz_La h) : h.2.2.2 0 6 = some 23 := H.rf 0 6 23 (by decide)
theorem rf_0_7 (H : gz_La h) : h.2.2.2 0 7 = some 25 := H.rf 0 7 25 (by decide)
theorem rf_0_8 (H : gz_La h) : h.2.2.2 0 8 = some 27 := H.rf 0 8 27 (by decide)
theorem rf_0_9 (H : gz_La h) : h.2.2.2 0 9 = some 28 := H.rf 0 9 28 (by decide)
theorem rf_0_12 (H : gz_La h) : h.2.2.2 0 12 = some 73 := H.rf 0 12 73 (by decide)
theorem rf_0_13 (H : gz_La h) : h.2.2.2 0 13 = some 74 := H.rf 0 13 74 (by decide)
theorem rf_0_14 (H : gz_La h) : h.2.2.2 0 14 = some 75 := H.rf 0 14 75 (by decide)
theorem rf_0_15 (H : gz_La h) : h.2.2.2 0 15 = some 76 := H.rf 0 15 76 (by decide)
theorem rf_0_16 (H : gz_La h) : h.2.2.2 0 16 = some 77 := H.rf 0 16 77 (by decide)
theorem rf_0_17 (H : gz_La h) : h.2.2.2 0 17 = some 78 := H.rf 0 17 78 (by decide)
theorem rf_1_1 (H : gz_La h) : h.2.2.2 1 1 = some 2 := H.rf 1 1 2 (by decide)
theorem rf_1_2 (H : gz_La h) : h.2.2.2 1 2 = some 9 := H.rf 1 2 9 (by decide)
theorem rf_10_1 (H : gz_La h) : h.2.2.2 10 1 = some 11 := H.rf 10 1 11 (by decide)
theorem rf_10_2 (H : gz_La h) : h.2.2.2 10 2 = some 16 := H.rf 10 2 16 (by decide)
theorem rf_18_0 (H : gz_La h) : h.2.2.2 18 0 = some 19 := H.rf 18 0 19 (by decide)
theorem rf_21_0 (H : gz_La h) : h.2.2.2 21 0 = some 22 := H.rf 21 0 22 (by decide)
theorem rf_23_0 (H : gz_La h) : h.2.2.2 23 0 = some 24 := H.rf 23 0 24 (by decide)
theorem rf_25_0 (H : gz_La h) : h.2.2.2 25 0 = some 26 := H.rf 25 0 26 (by decide)
theorem rf_27_0 (H : gz_La h) : h.2.2.2 27 0 = some 79 := H.rf 27 0 79 (by decide)
theorem rf_27_1 (H : gz_La h) : h.2.2.2 27 1 = some 81 := H.rf 27 1 81 (by decide)
theorem rf_27_2 (H : gz_La h) : h.2.2.2 27 2 = some 83 := H.rf 27 2 83 (by decide)
theorem rf_79_0 (H : gz_La h) : h.2.2.2 79 0 = some 80 := H.rf 79 0 80 (by decide)
theorem rf_81_0 (H : gz_La h) : h.2.2.2 81 0 = some 82 := H.rf 81 0 82 (by decide)
theorem rf_83_0 (H : gz_La h) : h.2.2.2 83 0 = some 84 := H.rf 83 0 84 (by decide)
theorem rf_28_0 (H : gz_La h) : h.2.2.2 28 0 = some 29 := H.rf 28 0 29 (by decide)
theorem rf_28_1 (H : gz_La h) : h.2.2.2 28 1 = some 30 := H.rf 28 1 30 (by decide)
theorem rf_31_0 (H : gz_La h) : h.2.2.2 31 0 = some 32 := H.rf 31 0 32 (by decide)
theorem rf_33_0 (H : gz_La h) : h.2.2.2 33 0 = some 34 := H.rf 33 0 34 (by decide)
theorem rf_35_0 (H : gz_La h) : h.2.2.2 35 0 = some 36 := H.rf 35 0 36 (by decide)
theorem rf_37_0 (H : gz_La h) : h.2.2.2 37 0 = some 38 := H.rf 37 0 38 (by decide)
theorem rf_39_0 (H : gz_La h) : h.2.2.2 39 0 = some 40 := H.rf 39 0 40 (by decide)
theorem rf_41_0 (H : gz_La h) : h.2.2.2 41 0 = some 42 := H.rf 41 0 42 (by decide)
theorem rf_43_0 (H : gz_La h) : h.2.2.2 43 0 = some 44 := H.rf 43 0 44 (by decide)
theorem rf_43_1 (H : gz_La h) : h.2.2.2 43 1 = some 45 := H.rf 43 1 45 (by decide)
theorem rf_46_0 (H : gz_La h) : h.2.2.2 46 0 = some 47 := H.rf 46 0 47 (by decide)
theorem rf_48_0 (H : gz_La h) : h.2.2.2 48 0 = some 49 := H.rf 48 0 49 (by decide)
theorem rf_50_0 (H : gz_La h) : h.2.2.2 50 0 = some 51 := H.rf 50 0 51 (by decide)
theorem rf_52_0 (H : gz_La h) : h.2.2.2 52 0 = some 53 := H.rf 52 0 53 (by decide)
theorem rf_54_0 (H : gz_La h) : h.2.2.2 54 0 = some 55 := H.rf 54 0 55 (by decide)
theorem rf_56_0 (H : gz_La h) : h.2.2.2 56 0 = some 57 := H.rf 56 0 57 (by decide)
theorem rf_58_0 (H : gz_La h) : h.2.2.2 58 0 = some 59 := H.rf 58 0 59 (by decide)
theorem rf_58_1 (H : gz_La h) : h.2.2.2 58 1 = some 60 := H.rf 58 1 60 (by decide)
theorem rf_61_0 (H : gz_La h) : h.2.2.2 61 0 = some 62 := H.rf 61 0 62 (by decide)
theorem rf_63_0 (H : gz_La h) : h.2.2.2 63 0 = some 64 := H.rf 63 0 64 (by decide)
theorem rf_65_0 (H : gz_La h) : h.2.2.2 65 0 = some 66 := H.rf 65 0 66 (by decide)
theorem rf_67_0 (H : gz_La h) : h.2.2.2 67 0 = some 68 := H.rf 67 0 68 (by decide)
theorem rf_69_0 (H : gz_La h) : h.2.2.2 69 0 = some 70 := H.rf 69 0 70 (by decide)
theorem rf_71_0 (H : gz_La h) : h.2.2.2 71 0 = some 72 := H.rf 71 0 72 (by decide)
theorem rf_85_0 (H : gz_La h) : h.2.2.2 85 0 = some 86 := H.rf 85 0 86 (by decide)
theorem rf_85_2 (H : gz_La h) : h.2.2.2 85 2 = some 87 := H.rf 85 2 87 (by decide)
theorem rf_85_4 (H : gz_La h) : h.2.2.2 85 4 = some 88 := H.rf 85 4 88 (by decide)
theorem rf_85_5 (H : gz_La h) : h.2.2.2 85 5 = some 89 := H.rf 85 5 89 (by decide)
theorem rf_85_6 (H : gz_La h) : h.2.2.2 85 6 = some 90 := H.rf 85 6 90 (by decide)
theorem rf_85_7 (H : gz_La h) : h.2.2.2 85 7 = some 91 := H.rf 85 7 91 (by decide)
theorem rf_85_8 (H : gz_La h) : h.2.2.2 85 8 = some 92 := H.rf 85 8 92 (by decide)
theorem rf_85_9 (H : gz_La h) : h.2.2.2 85 9 = some 93 := H.rf 85 9 93 (by decide)
theorem rf_85_10 (H : gz_La h) : h.2.2.2 85 10 = some 94 := H.rf 85 10 94 (by decide)
theorem rf_85_15 (H : gz_La h) : h.2.2.2 85 15 = some 95 := H.rf 85 15 95 (by decide)
theorem rf_85_19 (H : gz_La h) : h.2.2.2 85 19 = some 96 := H.rf 85 19 96 (by decide)
theorem rf_85_21 (H : gz_La h) : h.2.2.2 85 21 = some 97 := H.rf 85 21 97 (by decide)
theorem rf_85_22 (H : gz_La h) : h.2.2.2 85 22 = some 98 := H.rf 85 22 98 (by decide)
theorem rf_85_23 (H : gz_La h) : h.2.2.2 85 23 = some 99 := H.rf 85 23 99 (by decide)
theorem rf_85_26 (H : gz_La h) : h.2.2.2 85 26 = some 100 := H.rf 85 26 100 (by decide)
theorem rf_85_27 (H : gz_La h) : h.2.2.2 85 27 = some 101 := H.rf 85 27 101 (by decide)
theorem rf_85_28 (H : gz_La h) : h.2.2.2 85 28 = some 102 := H.rf 85 28 102 (by decide)
theorem rf_2 (H : gz_La h) (hj : j < 6) : h.2.2.2 2 j = some (3 + j) := by
  match j, hj with
  | 0, _ => exact H.rf 2 0 3 (by decide)
  | 1, _ => exact H.rf 2 1 4 (by decide)
  | 2, _ => exact H.rf 2 2 5 (by decide)
  | 3, _ => exact H.rf 2 3 6 (by decide)
  | 4, _ => exact H.rf 2 4 7 (by decide)
  | 5, _ => exact H.rf 2 5 8 (by decide)
  | j + 6, hj => exact absurd hj (by omega)
theorem rf_11 (H : gz_La h) (hj : j < 4) : h.2.2.2 11 j = some (12 + j) := by
  match j, hj with
  | 0, _ => exact H.rf 11 0 12 (by decide)
  | 1, _ => exact H.rf 11 1 13 (by decide)
  | 2, _ => exact H.rf 11 2 14 (by decide)
  | 3, _ => exact H.rf 11 3 15 (by decide)
  | j + 4, hj => exact absurd hj (by omega)
theorem rf_30 (H : gz_La h) (hj : j < 6) : h.2.2.2 30 j = some (31 + 2 * j) := by
  match j, hj with
  | 0, _ => exact H.rf 30 0 31 (by decide)
  | 1, _ => exact H.rf 30 1 33 (by decide)
  | 2, _ => exact H.rf 30 2 35 (by decide)
  | 3, _ => exact H.rf 30 3 37 (by decide)
  | 4, _ => exact H.rf 30 4 39 (by decide)
  | 5, _ => exact H.rf 30 5 41 (by decide)
  | j + 6, hj => exact absurd hj (by omega)
theorem rf_45 (H : gz_La h) (hj : j < 6) : h.2.2.2 45 j = some (46 + 2 * j) := by
  match j, hj with
  | 0, _ => exact H.rf 45 0 46 (by decide)
  | 1, _ => exact H.rf 45 1 48 (by decide)
  | 2, _ => exact H.rf 45 2 50 (by decide)
  | 3, _ => exact H.rf 45 3 52 (by decide)
  | 4, _ => exact H.rf 45 4 54 (by decide)
  | 5, _ => exact H.rf 45 5 56 (by decide)
  | j + 6, hj => exact absurd hj (by omega)
theorem rf_60 (H : gz_La h) (hj : j < 6) : h.2.2.2 60 j = some (61 + 2 * j) := by
  match j, hj with
  | 0, _ => exact H.rf 60 0 61 (by decide)
  | 1, _ => exact H.rf 60 1 63 (by decide)
  | 2, _ => exact H.rf 60 2 65 (by decide)
  | 3, _ => exact H.rf 60 3 67 (by decide)
  | 4, _ => exact H.rf 60 4 69 (by decide)
  | 5, _ => exact H.rf 60 5 71 (by decide)
  | j + 6, hj => exact absurd hj (by omega)
theorem in_2 (H : gz_La h) (hj : j < 6) : gz_inb h 2 13 (nI j) = true := inb_nI (H.sh rfl) hj (by decide)
theorem in_9 (H : gz_La h) (hj : j < 6) : gz_inb h 9 10 (nI j) = true := inb_nI (H.sh rfl) hj (by decide)
theorem in_11 (H : gz_La h) (hj : j < 4) : gz_inb h 11 13 (nI j) = true := inb_nI (H.sh rfl) hj (by decide)
theorem in_16 (H : gz_La h) (hj : j < 4) : gz_inb h 16 10 (nI j) = true := inb_nI (H.sh rfl) hj (by decide)
theorem in_19 (H : gz_La h) (hj : j < 6) : gz_inb h 19 10 (nI j) = true := inb_nI (H.sh rfl) hj (by decide)
theorem in_22 (H : gz_La h) (hj : j < 6) : gz_inb h 22 10 (nI j) = true := inb_nI (H.sh rfl) hj (by decide)
theorem in_24 (H : gz_La h) (hj : j < 8) : gz_inb h 24 10 (nI j) = true := inb_nI (H.sh rfl) hj (by decide)
theorem in_26 (H : gz_La h) (hj : j < 40) : gz_inb h 26 10 (nI j) = true := inb_nI (H.sh rfl) hj (by decide)
theorem in_27 (H : gz_La h) (hj : j < 3) : gz_inb h 27 12 (nI j) = true := inb_nI (H.sh rfl) hj (by decide)
theorem in_29 (H : gz_La h) (hj : j < 8) : gz_inb h 29 10 (nI j) = true := inb_nI (H.sh rfl) hj (by decide)
theorem in_30 (H : gz_La h) (hj : j < 6) : gz_inb h 30 11 (nI j) = true := inb_nI (H.sh rfl) hj (by decide)
theorem in_44 (H : gz_La h) (hj : j < 8) : gz_inb h 44 10 (nI j) = true := inb_nI (H.sh rfl) hj (by decide)
theorem in_45 (H : gz_La h) (hj : j < 6) : gz_inb h 45 11 (nI j) = true := inb_nI (H.sh rfl) hj (by decide)
theorem in_59 (H : gz_La h) (hj : j < 8) : gz_inb h 59 10 (nI j) = true := inb_nI (H.sh rfl) hj (by decide)
theorem in_60 (H : gz_La h) (hj : j < 6) : gz_inb h 60 11 (nI j) = true := inb_nI (H.sh rfl) hj (by decide)
theorem in_73 (H : gz_La h) (hj : j < 6) : gz_inb h 73 10 (nI j) = true := inb_nI (H.sh rfl) hj (by decide)
theorem in_74 (H : gz_La h) (hj : j < 6) : gz_inb h 74 10 (nI j) = true := inb_nI (H.sh rfl) hj (by decide)
theorem in_75 (H : gz_La h) (hj : j < 36) : gz_inb h 75 10 (nI j) = true := inb_nI (H.sh rfl) hj (by decide)
theorem in_76 (H : gz_La h) (hj : j < 256) : gz_inb h 76 10 (nI j) = true := inb_nI (H.sh rfl) hj (by decide)
theorem in_77 (H : gz_La h) (hj : j < 8) : gz_inb h 77 10 (nI j) = true := inb_nI (H.sh rfl) hj (by decide)
theorem in_78 (H : gz_La h) (hj : j < 8) : gz_inb h 78 10 (nI j) = true := inb_nI (H.sh rfl) hj (by decide)
theorem in_80 (H : gz_La h) (hj : j < 40) : gz_inb h 80 10 (nI j) = true := inb_nI (H.sh rfl) hj (by decide)
theorem in_82 (H : gz_La h) (hj : j < 40) : gz_inb h 82 10 (nI j) = true := inb_nI (H.sh rfl) hj (by decide)
theorem in_84 (H : gz_La h) (hj : j < 40) : gz_inb h 84 10 (nI j) = true := inb_nI (H.sh rfl) hj (by decide)
theorem in_86 (H : gz_La h) (hj : j < 9024) : gz_inb h 86 10 (nI j) = true := inb_nI (H.sh rfl) hj (by decide)
theorem in_87 (H : gz_La h) (hj : j < 8) : gz_inb h 87 10 (nI j) = true := inb_nI (H.sh rfl) hj (by decide)
theorem in_88 (H : gz_La h) (hj : j < 6) : gz_inb h 88 10 (nI j) = true := inb_nI (H.sh rfl) hj (by decide)
theorem in_89 (H : gz_La h) (hj : j < 6) : gz_inb h 89 10 (nI j) = true := inb_nI (H.sh rfl) hj (by decide)
theorem in_90 (H : gz_La h) (hj : j < 6) : gz_inb h 90 10 (nI j) = true := inb_nI (H.sh rfl) hj (by decide)
theorem in_91 (H : gz_La h) (hj : j < 6) : gz_inb h 91 10 (nI j) = true := inb_nI (H.sh rfl) hj (by decide)
theorem in_92 (H : gz_La h) (hj : j < 240) : gz_inb h 92 10 (nI j) = true := inb_nI (H.sh rfl) hj (by decide)
theorem in_93 (H : gz_La h) (hj : j < 4) : gz_inb h 93 10 (nI j) = true := inb_nI (H.sh rfl) hj (by decide)
theorem in_94 (H : gz_La h) (hj : j < 320) : gz_inb h 94 10 (nI j) = true := inb_nI (H.sh rfl) hj (by decide)
theorem in_95 (H : gz_La h) (hj : j < 6) : gz_inb h 95 10 (nI j) = true := inb_nI (H.sh rfl) hj (by decide)
theorem in_96 (H : gz_La h) (hj : j < 8) : gz_inb h 96 10 (nI j) = true := inb_nI (H.sh rfl) hj (by decide)
theorem in_97 (H : gz_La h) (hj : j < 18) : gz_inb h 97 10 (nI j) = true := inb_nI (H.sh rfl) hj (by decide)
theorem in_98 (H : gz_La h) (hj : j < 6) : gz_inb h 98 10 (nI j) = true := inb_nI (H.sh rfl) hj (by decide)
theorem in_99 (H : gz_La h) (hj : j < 48) : gz_inb h 99 10 (nI j) = true := inb_nI (H.sh rfl) hj (by decide)
theorem in_100 (H : gz_La h) (hj : j < 8) : gz_inb h 100 10 (nI j) = true := inb_nI (H.sh rfl) hj (by decide)
theorem in_101 (H : gz_La h) (hj : j < 36) : gz_inb h 101 10 (nI j) = true := inb_nI (H.sh rfl) hj (by decide)
theorem in_102 (H : gz_La h) (hj : j < 256) : gz_inb h 102 10 (nI j) = true := inb_nI (H.sh rfl) hj (by decide)
theorem sh_0 (H : gz_La h) : gz_sh h 0 8 19 = true := H.ck rfl
theorem sh_1 (H : gz_La h) : gz_sh h 1 7 3 = true := H.ck rfl
theorem sh_10 (H : gz_La h) : gz_sh h 10 7 3 = true := H.ck rfl
theorem sh_17 (H : gz_La h) : gz_sh h 17 5 4 = true := H.ck rfl
theorem sh_18 (H : gz_La h) : gz_sh h 18 0 2 = true := H.ck rfl
theorem sh_20 (H : gz_La h) : gz_sh h 20 4 2 = true := H.ck rfl
theorem sh_21 (H : gz_La h) : gz_sh h 21 6 2 = true := H.ck rfl
theorem sh_23 (H : gz_La h) : gz_sh h 23 2 6 = true := H.ck rfl
theorem sh_25 (H : gz_La h) : gz_sh h 25 3 2 = true := H.ck rfl
theorem sh_28 (H : gz_La h) : gz_sh h 28 1 4 = true := H.ck rfl
theorem sh_43 (H : gz_La h) : gz_sh h 43 1 4 = true := H.ck rfl
theorem sh_58 (H : gz_La h) : gz_sh h 58 1 4 = true := H.ck rfl
theorem sh_79 (H : gz_La h) : gz_sh h 79 3 2 = true := H.ck rfl
theorem sh_81 (H : gz_La h) : gz_sh h 81 3 2 = true := H.ck rfl
theorem sh_83 (H : gz_La h) : gz_sh h 83 3 2 = true := H.ck rfl
theorem sh_85 (H : gz_La h) : gz_sh h 85 9 29 = true := H.ck rfl
theorem sz_rw (H : gz_La h) (hj : j < 6) : h.1[3 + j]? = some (10, 40) := by
  match j, hj with
  | 0, _ => exact H.sh rfl
  | 1, _ => exact H.sh rfl
  | 2, _ => exact H.sh rfl
  | 3, _ => exact H.sh rfl
  | 4, _ => exact H.sh rfl
  | 5, _ => exact H.sh rfl
  | j + 6, hj => exact absurd hj (by omega)
theorem sz_tx (H : gz_La h) (hj : j < 4) : h.1[12 + j]? = some (10, 80) := by
  match j, hj with
  | 0, _ => exact H.sh rfl
  | 1, _ => exact H.sh rfl
  | 2, _ => exact H.sh rfl
  | 3, _ => exact H.sh rfl
  | j + 4, hj => exact absurd hj (by omega)
theorem sg_31 (H : gz_La h) (hj : j < 6) : h.1[31 + 2 * j]? = some (2, 6) ∧ h.1[31 + 2 * j + 1]? = some (10, 8) ∧ h.2.2.2 (31 + 2 * j) 0 = some (31 + 2 * j + 1) := by
  match j, hj with
  | 0, _ => exact ⟨H.sh rfl, H.sh rfl, H.rf 31 0 32 (by decide)⟩
  | 1, _ => exact ⟨H.sh rfl, H.sh rfl, H.rf 33 0 34 (by decide)⟩
  | 2, _ => exact ⟨H.sh rfl, H.sh rfl, H.rf 35 0 36 (by decide)⟩
  | 3, _ => exact ⟨H.sh rfl, H.sh rfl, H.rf 37 0 38 (by decide)⟩
  | 4, _ => exact ⟨H.sh rfl, H.sh rfl, H.rf 39 0 40 (by decide)⟩
  | 5, _ => exact ⟨H.sh rfl, H.sh rfl, H.rf 41 0 42 (by decide)⟩
  | j + 6, hj => exact absurd hj (by omega)
theorem sgk_31 (H : gz_La h) (hj : j < 6) : gz_sh h (31 + 2 * j) 2 6 = true := sh_t (sg_31 H hj).1
theorem sgr_31 (H : gz_La h) (hj : j < 6) : h.2.2.2 (31 + 2 * j) 0 = some (31 + 2 * j + 1) := (sg_31 H hj).2.2
theorem sgi_31 {k : Nat} (H : gz_La h) (hj : j < 6) (hk : k < 8) : gz_inb h (31 + 2 * j + 1) 10 (nI k) = true := inb_nI (sg_31 H hj).2.1 hk (by decide)
theorem sg_46 (H : gz_La h) (hj : j < 6) : h.1[46 + 2 * j]? = some (2, 6) ∧ h.1[46 + 2 * j + 1]? = some (10, 8) ∧ h.2.2.2 (46 + 2 * j) 0 = some (46 + 2 * j + 1) := by
  match j, hj with
  | 0, _ => exact ⟨H.sh rfl, H.sh rfl, H.rf 46 0 47 (by decide)⟩
  | 1, _ => exact ⟨H.sh rfl, H.sh rfl, H.rf 48 0 49 (by decide)⟩
  | 2, _ => exact ⟨H.sh rfl, H.sh rfl, H.rf 50 0 51 (by decide)⟩
  | 3, _ => exact ⟨H.sh rfl, H.sh rfl, H.rf 52 0 53 (by decide)⟩
  | 4, _ => exact ⟨H.sh rfl, H.sh rfl, H.rf 54 0 55 (by decide)⟩
  | 5, _ => exact ⟨H.sh rfl, H.sh rfl, H.rf 56 0 57 (by decide)⟩
  | j + 6, hj => exact absurd hj (by omega)
theorem sgk_46 (H : gz_La h) (hj : j < 6) : gz_sh h (46 + 2 * j) 2 6 = true := sh_t (sg_46 H hj).1
theorem sgr_46 (H : gz_La h) (hj : j < 6) : h.2.2.2 (46 + 2 * j) 0 = some (46 + 2 * j + 1) := (sg_46 H hj).2.2
theorem sgi_46 {k : Nat} (H : gz_La h) (hj : j < 6) (hk : k < 8) : gz_inb h (46 + 2 * j + 1) 10 (nI k) = true := inb_nI (sg_46 H hj).2.1 hk (by decide)
theorem sg_61 (H : gz_La h) (hj : j < 6) : h.1[61 + 2 * j]? = some (2, 6) ∧ h.1[61 + 2 * j + 1]? = some (10, 8) ∧ h.2.2.2 (61 + 2 * j) 0 = some (61 + 2 * j + 1) := by
  match j, hj with
  | 0, _ => exact ⟨H.sh rfl, H.sh rfl, H.rf 61 0 62 (by decide)⟩
  | 1, _ => exact ⟨H.sh rfl, H.sh rfl, H.rf 63 0 64 (by decide)⟩
  | 2, _ => exact ⟨H.sh rfl, H.sh rfl, H.rf 65 0 66 (by decide)⟩
  | 3, _ => exact ⟨H.sh rfl, H.sh rfl, H.rf 67 0 68 (by decide)⟩
  | 4, _ => exact ⟨H.sh rfl, H.sh rfl, H.rf 69 0 70 (by decide)⟩
  | 5, _ => exact ⟨H.sh rfl, H.sh rfl, H.rf 71 0 72 (by decide)⟩
  | j + 6, hj => exact absurd hj (by omega)
theorem sgk_61 (H : gz_La h) (hj : j < 6) : gz_sh h (61 + 2 * j) 2 6 = true := sh_t (sg_61 H hj).1
theorem sgr_61 (H : gz_La h) (hj : j < 6) : h.2.2.2 (61 + 2 * j) 0 = some (61 + 2 * j + 1) := (sg_61 H hj).2.2
theorem sgi_61 {k : Nat} (H : gz_La h) (hj : j < 6) (hk : k < 8) : gz_inb h (61 + 2 * j + 1) 10 (nI k) = true := inb_nI (sg_61 H hj).2.1 hk (by decide)
theorem ini_rw {k : Nat} (H : gz_La h) (hj : j < 6) (hk : k < 40) : gz_inb h (3 + j) 10 (nI k) = true := inb_nI (sz_rw H hj) hk (by decide)
theorem ini_tx {k : Nat} (H : gz_La h) (hj : j < 4) (hk : k < 80) : gz_inb h (12 + j) 10 (nI k) = true := inb_nI (sz_tx H hj) hk (by decide)
theorem li_0 : (0 : Int32) = nI 0 := rfl
theorem li_1 : (1 : Int32) = nI 1 := rfl
theorem li_2 : (2 : Int32) = nI 2 := rfl
theorem li_3 : (3 : Int32) = nI 3 := rfl
theorem li_4 : (4 : Int32) = nI 4 := rfl
theorem li_5 : (5 : Int32) = nI 5 := rfl
theorem li_6 : (6 : Int32) = nI 6 := rfl
theorem li_7 : (7 : Int32) = nI 7 := rfl
theorem li_8 : (8 : Int32) = nI 8 := rfl
theorem li_9 : (9 : Int32) = nI 9 := rfl
theorem li_10 : (10 : Int32) = nI 10 := rfl
theorem li_11 : (11 : Int32) = nI 11 := rfl
theorem li_12 : (12 : Int32) = nI 12 := rfl
theorem li_13 : (13 : Int32) = nI 13 := rfl
theorem li_14 : (14 : Int32) = nI 14 := rfl
theorem li_15 : (15 : Int32) = nI 15 := rfl
theorem li_16 : (16 : Int32) = nI 16 := rfl
theorem li_31 : (31 : Int32) = nI 31 := rfl
theorem li_32 : (32 : Int32) = nI 32 := rfl
theorem li_36 : (36 : Int32) = nI 36 := rfl
theorem li_40 : (40 : Int32) = nI 40 := rfl
theorem li_48 : (48 : Int32) = nI 48 := rfl
theorem li_53 : (53 : Int32) = nI 53 := rfl
theorem li_55 : (55 : Int32) = nI 55 := rfl
theorem li_56 : (56 : Int32) = nI 56 := rfl
theorem li_57 : (57 : Int32) = nI 57 := rfl
theorem li_58 : (58 : Int32) = nI 58 := rfl
theorem li_60 : (60 : Int32) = nI 60 := rfl
theorem li_63 : (63 : Int32) = nI 63 := rfl
theorem li_64 : (64 : Int32) = nI 64 := rfl
theorem li_80 : (80 : Int32) = nI 80 := rfl
theorem li_97 : (97 : Int32) = nI 97 := rfl
theorem li_98 : (98 : Int32) = nI 98 := rfl
theorem li_99 : (99 : Int32) = nI 99 := rfl
theorem li_100 : (100 : Int32) = nI 100 := rfl
theorem li_103 : (103 : Int32) = nI 103 := rfl
theorem li_104 : (104 : Int32) = nI 104 := rfl
theorem li_108 : (108 : Int32) = nI 108 := rfl
theorem li_115 : (115 : Int32) = nI 115 := rfl
theorem li_116 : (116 : Int32) = nI 116 := rfl
theorem li_118 : (118 : Int32) = nI 118 := rfl
theorem li_200 : (200 : Int32) = nI 200 := rfl
theorem li_256 : (256 : Int32) = nI 256 := rfl
theorem li_1000 : (1000 : Int32) = nI 1000 := rfl
theorem li_2256 : (2256 : Int32) = nI 2256 := rfl
theorem uI_ne {a b k v} (e : ¬ (b = a ∧ j = k)) : (uI h a k v).2.1 b j = h.2.1 b j := by rw [uI_I, if_neg e]
theorem uI_at {a k : Nat} {v : Int32} : (uI h a k v).2.1 a k = v := by rw [uI_I, if_pos ⟨rfl, rfl⟩]
theorem uI_to {a b k : Nat} {v : Int32} (e : b = a ∧ j = k) : (uI h a k v).2.1 b j = v := by rw [uI_I, if_pos e]
theorem uF_ne {a b : Nat} {f : Nat → Int32} (e : ¬ b = a) : (uF h a f).2.1 b j = h.2.1 b j := by rw [uF_I, if_neg e]
theorem uF_at {a : Nat} {f : Nat → Int32} : (uF h a f).2.1 a j = f j := by rw [uF_I, if_pos rfl]
end
/-- a loop that answers r -/
theorem lp {σ β : Type} (F : Nat → Nat → σ → β) (acc : Nat → σ) (n : Nat) (r : β) (fin : ∀ m, F (m + 1) n (acc n) = r) (st : ∀ m i, i < n → F (m + 1) i (acc i) = F m (i + 1) (acc (i + 1))) : ∀ m i, i ≤ n → n < i + m → F m i (acc i) = r := by
  intro m
  induction m with
  | zero => intro i h1 h2; omega
  | succ m ih =>
    intro i h1 h2
    by_cases e : i = n
    · subst e; exact fin m
    · rw [st m i (by omega)]; exact ih (i + 1) (by omega) (by omega)
/-- a loop, by what it keeps -/
theorem lpr {σ β : Type} (F : Nat → Nat → σ → β) (P : Nat → σ → Prop) (n : Nat) (Q : β → Prop) (fin : ∀ m s, P n s → Q (F (m + 1) n s)) (st : ∀ m i s, i < n → P i s → ∃ s', P (i + 1) s' ∧ F (m + 1) i s = F m (i + 1) s') : ∀ m i s, i ≤ n → n < i + m → P i s → Q (F m i s) := by
  intro m
  induction m with
  | zero => intro i s h1 h2; omega
  | succ m ih =>
    intro i s h1 h2 hp
    by_cases e : i = n
    · subst e; exact fin m s hp
    · obtain ⟨s', p', e'⟩ := st m i s (by omega) hp
      rw [e']; exact ih (i + 1) s' (by omega) (by omega) p'
theorem nI_or (a b : Nat) : nI a ||| nI b = nI (a ||| b) := by
  apply Int32.toBitVec_inj.mp
  show BitVec.ofNat 32 a ||| BitVec.ofNat 32 b = BitVec.ofNat 32 (a ||| b)
  exact BitVec.ofNat_or.symm
theorem nI_and (a b : Nat) : nI a &&& nI b = nI (a &&& b) := by
  apply Int32.toBitVec_inj.mp
  show BitVec.ofNat 32 a &&& BitVec.ofNat 32 b = BitVec.ofNat 32 (a &&& b)
  exact BitVec.ofNat_and.symm
theorem nI_xor (a b : Nat) : nI a ^^^ nI b = nI (a ^^^ b) := by
  apply Int32.toBitVec_inj.mp
  show BitVec.ofNat 32 a ^^^ BitVec.ofNat 32 b = BitVec.ofNat 32 (a ^^^ b)
  exact BitVec.ofNat_xor.symm
/-- a without b -/
def sd (a b : Nat) : Nat := a ^^^ (a &&& b)
theorem sd_bit (a b k : Nat) : (sd a b).testBit k = (a.testBit k && !b.testBit k) := by
  unfold sd
  rw [Nat.testBit_xor, Nat.testBit_and]
  cases a.testBit k <;> cases b.testBit k <;> rfl
theorem nI_nand (a b : Nat) : nI a &&& (nI b ^^^ (-1 : Int32)) = nI (sd a b) := by
  unfold sd
  rw [← nI_xor, ← nI_and]
  apply Int32.toBitVec_inj.mp
  show (nI a).toBitVec &&& ((nI b).toBitVec ^^^ (-1 : Int32).toBitVec) = (nI a).toBitVec ^^^ ((nI a).toBitVec &&& (nI b).toBitVec)
  rw [show (-1 : Int32).toBitVec = BitVec.allOnes 32 from rfl]
  ext i hi
  simp only [BitVec.getElem_and, BitVec.getElem_xor, BitVec.getElem_allOnes]
  cases (nI a).toBitVec[i] <;> cases (nI b).toBitVec[i] <;> rfl
theorem nI_shl {k : Nat} (hk : k < 31) : nI 1 <<< (nI k &&& nI 31) = nI (2 ^ k) := by
  have e : nI k &&& nI 31 = nI k := by
    rw [pk_andN (m := nI 31) (by omega) 5 rfl, Nat.mod_eq_of_lt (by omega)]
  rw [e, pk_shlN (nI k) k ?_ (by rw [Nat.one_mul]; exact Nat.pow_lt_pow_right (by decide) (by omega)), Nat.one_mul]
  match k, hk with
  | 0, _ => rfl
  | k + 1, hk =>
    have : ∀ q : Fin 31, ((nI q.1).toBitVec.smod 32).toNat = q.1 := by decide
    exact this ⟨k + 1, hk⟩
theorem nI_m31 {k : Nat} (hk : k < 32) : nI k &&& nI 31 = nI k := by rw [pk_andN (m := nI 31) (by omega) 5 rfl, Nat.mod_eq_of_lt (by omega)]
theorem nI_sl {k : Nat} (hk : k < 31) : nI 1 <<< nI k = nI (2 ^ k) := by rw [← nI_shl hk, nI_m31 (by omega)]
theorem nI_smod {k : Nat} (hk : k < 31) : ((nI k).toBitVec.smod 32).toNat = k := by
  have : ∀ q : Fin 31, ((nI q.1).toBitVec.smod 32).toNat = q.1 := by decide
  exact this ⟨k, hk⟩
/-- a bit of a set -/
theorem nI_bit {a k : Nat} (ha : a < 2 ^ 31) (hk : k < 31) : (nI a >>> (nI k &&& nI 31)) &&& nI 1 = nI (if a.testBit k then 1 else 0) := by
  rw [nI_m31 (by omega), pk_shrN ha (nI k) k (nI_smod hk), nI_and, Nat.and_one_is_mod, Nat.testBit_eq_decide_div_mod_eq]
  by_cases e : a / 2 ^ k % 2 = 1
  · simp [e]
  · have : a / 2 ^ k % 2 = 0 := by omega
    simp [this]

theorem nI_bt {a k : Nat} (ha : a < 2 ^ 31) (hk : k < 31) : (nI a >>> nI k) &&& nI 1 = nI (if a.testBit k then 1 else 0) := by rw [← nI_bit ha hk, nI_m31 (by omega)]
theorem nI_sub' (a b : Nat) : nI a &&& (nI b ^^^ (-nI 1)) = nI (sd a b) := nI_nand a b
theorem nI_n9 {k : Nat} (hk : k < 2 ^ 31) : (nI k = -nI 9) = False := by
  apply propext
  refine ⟨fun e => ?_, fun e => e.elim⟩
  have q1 := congrArg Int32.toInt e
  rw [nI_toInt hk] at q1
  have q2 : (-nI 9).toInt = -9 := rfl
  omega
theorem nI_9n {k : Nat} (hk : k < 2 ^ 31) : (-nI 9 = nI k) = False := by rw [show (-nI 9 = nI k) = (nI k = -nI 9) from propext eq_comm, nI_n9 hk]
theorem nI_n1 {k : Nat} (hk : k < 2 ^ 31) : (nI k = -nI 1) = False := by
  apply propext
  refine ⟨fun e => ?_, fun e => e.elim⟩
  have q1 := congrArg Int32.toInt e
  rw [nI_toInt hk] at q1
  have q2 : (-nI 1).toInt = -1 := rfl
  omega
theorem bo_n0 : gz_bo (nI 0) = true := rfl
theorem bo_n1 : gz_bo (nI 1) = true := rfl
theorem bo_if {c : Prop} [Decidable c] : gz_bo (nI (if c then 1 else 0)) = true := by by_cases e : c <;> simp [e] <;> rfl
theorem nI_if {c : Prop} [Decidable c] : (if c then nI 1 else nI 0) = nI (if c then 1 else 0) := by by_cases e : c <;> simp [e]
theorem if_10 {c : Prop} [Decidable c] : ((if c then 1 else 0) = 0) = ¬ c := by by_cases e : c <;> simp [e]
theorem if_11 {c : Prop} [Decidable c] : ((if c then 1 else 0) = 1) = c := by by_cases e : c <;> simp [e]
theorem if_lt {c : Prop} [Decidable c] {n : Nat} : (if c then 1 else 0) < n + 2 := by by_cases e : c <;> simp [e]
theorem nI_if0 {c : Prop} [Decidable c] : (nI (if c then 1 else 0) = nI 0) = ¬ c := by by_cases e : c <;> simp [e] <;> decide
theorem nI_if1 {c : Prop} [Decidable c] : (nI (if c then 1 else 0) = nI 1) = c := by by_cases e : c <;> simp [e] <;> decide
/-- or's, sums -/
def fo (g : Nat → Nat) : Nat → Nat
  | 0 => 0
  | n + 1 => fo g n ||| g n
def fs (g : Nat → Nat) : Nat → Nat
  | 0 => 0
  | n + 1 => fs g n + g n
theorem fo_bit {g : Nat → Nat} {k : Nat} : ∀ {n : Nat}, (fo g n).testBit k = true ↔ ∃ i, i < n ∧ (g i).testBit k = true := by
  intro n
  induction n with
  | zero => simp [fo]
  | succ n ih =>
    rw [fo, Nat.testBit_or, Bool.or_eq_true, ih]
    constructor
    · rintro (⟨i, hi, e⟩ | e)
      · exact ⟨i, by omega, e⟩
      · exact ⟨n, by omega, e⟩
    · rintro ⟨i, hi, e⟩
      by_cases q : i = n
      · subst q; exact Or.inr e
      · exact Or.inl ⟨i, by omega, e⟩
theorem fo_lt {g : Nat → Nat} {b : Nat} : ∀ {n : Nat}, (∀ i, i < n → g i < 2 ^ b) → fo g n < 2 ^ b := by
  intro n
  induction n with
  | zero => intro _; exact Nat.two_pow_pos b
  | succ n ih => intro h; exact Nat.or_lt_two_pow (ih fun i hi => h i (by omega)) (h n (by omega))
theorem fo_cg {g g' : Nat → Nat} : ∀ {n : Nat}, (∀ i, i < n → g i = g' i) → fo g n = fo g' n := by
  intro n
  induction n with
  | zero => intro _; rfl
  | succ n ih => intro h; rw [fo, fo, ih fun i hi => h i (by omega), h n (by omega)]
theorem fs_cg {g g' : Nat → Nat} : ∀ {n : Nat}, (∀ i, i < n → g i = g' i) → fs g n = fs g' n := by
  intro n
  induction n with
  | zero => intro _; rfl
  | succ n ih => intro h; rw [fs, fs, ih fun i hi => h i (by omega), h n (by omega)]
theorem fs_le {g : Nat → Nat} {b : Nat} : ∀ {n : Nat}, (∀ i, i < n → g i ≤ b) → fs g n ≤ n * b := by
  intro n
  induction n with
  | zero => intro _; exact Nat.zero_le _
  | succ n ih =>
    intro h
    rw [fs, Nat.succ_mul]
    exact Nat.add_le_add (ih fun i hi => h i (by omega)) (h n (by omega))
theorem bit_ext {a b : Nat} (h : ∀ k, a.testBit k = true ↔ b.testBit k = true) : a = b := by
  apply Nat.eq_of_testBit_eq
  intro k
  have := h k
  cases e1 : a.testBit k <;> cases e2 : b.testBit k <;> simp_all
theorem bit_lt {a b : Nat} (h : ∀ k, a.testBit k = true → k < b) : a < 2 ^ b := by
  apply Nat.lt_of_not_le
  intro hge
  obtain ⟨i, hi, e⟩ := Nat.exists_ge_and_testBit_of_ge_two_pow hge
  exact absurd (h i e) (by omega)
theorem bit_p {f k : Nat} : (2 ^ f).testBit k = true ↔ k = f := by
  rw [Nat.testBit_two_pow]
  simp [eq_comm]
/-- the set of a list of facts -/
def hs (l : List Nat) : Nat := fo (fun k => 2 ^ l.getD k 0) l.length
theorem hs_bit {l : List Nat} {f : Nat} : (hs l).testBit f = true ↔ f ∈ l := by
  unfold hs
  rw [fo_bit]
  constructor
  · rintro ⟨i, hi, e⟩
    rw [bit_p] at e
    rw [e, List.getD_eq_getElem?_getD, List.getElem?_eq_getElem hi]
    exact List.getElem_mem hi
  · intro h
    obtain ⟨i, hi, e⟩ := List.mem_iff_getElem.mp h
    refine ⟨i, hi, ?_⟩
    rw [bit_p, List.getD_eq_getElem?_getD, List.getElem?_eq_getElem hi, ← e]
    rfl
theorem hs_lt {l : List Nat} {b : Nat} (h : ∀ f ∈ l, f < b) : hs l < 2 ^ b := bit_lt fun k e => h k (hs_bit.mp e)
/-- how many -/
def pc (s : Nat) : Nat := fs (fun k => if s.testBit k then 1 else 0) 8
theorem pc_le (s : Nat) : pc s ≤ 8 := fs_le (b := 1) fun i _ => by by_cases e : s.testBit i = true <;> simp [e]
theorem t_bits {h : gz_H} {s : Nat} (hs : s < 2 ^ 31) : fX9_bits (nI s) h = some (nI (pc s), h) := by
  unfold fX9_bits fX9_bits_0
  have := lp (fun m i (x : Int32) => fX9_bits_4 m (nI s) x (nI i) h) (fun i => nI (fs (fun k => if s.testBit k then 1 else 0) i)) 8 (some (nI (pc s), h)) ?_ ?_ gz_fu 0 (by omega) (by show 8 < 0 + 100000; omega)
  · exact this
  · intro m
    rw [fX9_bits_4, if_pos (by decide)]
    rfl
  · intro m i hi
    rw [fX9_bits_4, if_neg (show ¬ (8 : Int32) ≤ nI i from nI_ge hi (by decide)), show (31 : Int32) = nI 31 from rfl, show (1 : Int32) = nI 1 from rfl, nI_bit hs (by omega), nI_add, nI_add]
    rfl
def bcE (x : Int32) : Int32 :=
  let y1 := x - (((x.toUInt32 >>> ((1 : Int32).toUInt32 &&& Int32.toUInt32 31)).toInt32) &&& (1431655765 : Int32))
  let y2 := (y1 &&& (858993459 : Int32)) + (((y1.toUInt32 >>> ((2 : Int32).toUInt32 &&& Int32.toUInt32 31)).toInt32) &&& (858993459 : Int32))
  let y3 := (y2 + ((y2.toUInt32 >>> ((4 : Int32).toUInt32 &&& Int32.toUInt32 31)).toInt32)) &&& (252645135 : Int32)
  let y4 := y3 + ((y3.toUInt32 >>> ((8 : Int32).toUInt32 &&& Int32.toUInt32 31)).toInt32)
  let y5 := y4 + ((y4.toUInt32 >>> ((16 : Int32).toUInt32 &&& Int32.toUInt32 31)).toInt32)
  y5 &&& (63 : Int32)
theorem bcE_all : ∀ s : Fin 256, bcE (nI s.1) = nI (pc s.1) := by decide +kernel
theorem t_bc {h : gz_H} {s : Nat} (hs : s < 256) : fJ6_bitCount_0f7a4 (nI s) h = some (nI (pc s), h) := by
  rw [← bcE_all ⟨s, hs⟩]
  rfl
/-- the first of a set -/
def fst1 (s : Nat) : Nat := if s.testBit 0 then 0 else if s.testBit 1 then 1 else if s.testBit 2 then 2 else if s.testBit 3 then 3 else if s.testBit 4 then 4 else if s.testBit 5 then 5 else if s.testBit 6 then 6 else 7
def ntE (x0 : Int32) : Int32 :=
  let a := (x0 ^^^ (-1 : Int32)) &&& (x0 - (1 : Int32))
  let f74 := fun (x0 x1 : Int32) => x1 + ((x0.toUInt32 >>> ((1 : Int32).toUInt32 &&& Int32.toUInt32 31)).toInt32)
  let f62 := fun (x0 x1 : Int32) => if x0 ≤ (4 : Int32) then f74 x0 x1 else f74 ((x0.toUInt32 >>> ((2 : Int32).toUInt32 &&& Int32.toUInt32 31)).toInt32) (x1 + 2)
  let f49 := fun (x0 x1 : Int32) => if x0 ≤ (16 : Int32) then f62 x0 x1 else f62 ((x0.toUInt32 >>> ((4 : Int32).toUInt32 &&& Int32.toUInt32 31)).toInt32) (x1 + 4)
  let f34 := fun (x0 x1 : Int32) => if x0 ≤ (256 : Int32) then f49 x0 x1 else f49 ((x0.toUInt32 >>> ((8 : Int32).toUInt32 &&& Int32.toUInt32 31)).toInt32) (x1 + 8)
  if 0 < a then (if a ≤ (65536 : Int32) then f34 a 1 else f34 ((a.toUInt32 >>> ((16 : Int32).toUInt32 &&& Int32.toUInt32 31)).toInt32) (1 + 16)) else a &&& (32 : Int32)
theorem if_some {α : Type} {c : Prop} [Decidable c] {a b : α} {h : gz_H} : (if c then some (a, h) else some (b, h)) = some (if c then a else b, h) := by by_cases e : c <;> simp [e]
theorem ntE_eq (x : Int32) (h : gz_H) : fJ6_numberOfTrailingZeros_0f7a4 x h = some (ntE x, h) := by
  unfold fJ6_numberOfTrailingZeros_0f7a4 fJ6_numberOfTrailingZeros_0f7a4_0 fJ6_numberOfTrailingZeros_0f7a4_34 fJ6_numberOfTrailingZeros_0f7a4_49 fJ6_numberOfTrailingZeros_0f7a4_62 fJ6_numberOfTrailingZeros_0f7a4_74 ntE
  simp only [lt_d, if_some]
theorem ntE_all : ∀ s : Fin 256, s.1 = 0 ∨ ntE (nI s.1) = nI (fst1 s.1) := by decide +kernel
theorem t_nt {h : gz_H} {s : Nat} (hs : s < 256) (h0 : ¬ s = 0) : fJ6_numberOfTrailingZeros_0f7a4 (nI s) h = some (nI (fst1 s), h) := by
  rw [ntE_eq, (ntE_all ⟨s, hs⟩).resolve_left h0]
theorem t_has {h : gz_H} {s k : Nat} (hs : s < 2 ^ 31) (hk : k < 31) : fX9_has (nI s) (nI k) h = some (nI (if s.testBit k then 1 else 0), h) := by
  unfold fX9_has fX9_has_0
  rw [show (31 : Int32) = nI 31 from rfl, show (1 : Int32) = nI 1 from rfl, nI_bit hs hk]
  by_cases e : s.testBit k = true
  · simp [e]
  · simp [e]
    rw [if_neg (by decide)]
    rfl
end
section
/-! PURE: what a flock is. T: facts, geese, places, kinds, mosts, ranks; D: what each goose holds, whether it is gone; deeds (which, goose, other) -/
abbrev gz_T : Type := Nat × Nat × (Nat → Nat) × (Nat → Nat) × (Nat → Nat) × (Nat → Nat)
abbrev gz_D : Type := Nat → List Nat × Bool
abbrev gz_De : Type := Nat × Nat × Nat
/-- a goose that holds at most mo takes f -/
def tk (mo : Nat) (l : List Nat) (f : Nat) : List Nat := if f ∈ l then l.erase f ++ [f] else if mo ≤ l.length then l.tail ++ [f] else l ++ [f]
def pf_mix (T : gz_T) (D : gz_D) (i j : Nat) : Nat × Nat := if T.2.2.2.2.2 j < T.2.2.2.2.2 i ∨ (T.2.2.2.2.2 i = T.2.2.2.2.2 j ∧ i < j) then (i, j) else (j, i)
def pf (T : gz_T) (D : gz_D) (d : gz_De) : gz_D :=
  if d.1 = 0 then va_up D d.2.1 (tk (T.2.2.2.2.1 d.2.1) (D d.2.1).1 d.2.2, (D d.2.1).2)
  else if d.1 = 1 then va_up D d.2.1 ((D d.2.1).1.dropLast, (D d.2.1).2)
  else if d.1 = 2 then
    (match (D (pf_mix T D d.2.1 d.2.2).1).1.getLast? with
      | some f => va_up D (pf_mix T D d.2.1 d.2.2).2 (tk (T.2.2.2.2.1 (pf_mix T D d.2.1 d.2.2).2) (D (pf_mix T D d.2.1 d.2.2).2).1 f, (D (pf_mix T D d.2.1 d.2.2).2).2)
      | none => D)
  else if d.2.2 = 15 then va_up D d.2.1 ([], true)
  else va_up (va_up D d.2.2 ((D d.2.1).1.foldl (tk (T.2.2.2.2.1 d.2.2)) (D d.2.2).1, (D d.2.2).2)) d.2.1 ([], true)
def rn (T : gz_T) (D : gz_D) (ds : List gz_De) : gz_D := ds.foldl (pf T) D
def wsT (T : gz_T) : Prop := T.1 ≤ 8 ∧ T.2.1 ≤ 6 ∧ (T.1 = 0 ↔ T.2.1 = 0) ∧ (∀ f, f < T.1 → T.2.2.1 f ≤ 5) ∧ ∀ i, i < T.2.1 → T.2.2.2.1 i ≤ 5 ∧ 1 ≤ T.2.2.2.2.1 i ∧ T.2.2.2.2.1 i ≤ 8 ∧ T.2.2.2.2.2 i ≤ 9
def wd (T : gz_T) (D : gz_D) : Prop := ∀ i, i < T.2.1 → (D i).1.length ≤ T.2.2.2.2.1 i ∧ (D i).1.Nodup ∧ (∀ f ∈ (D i).1, f < T.1) ∧ ((D i).2 = true → (D i).1 = [])
def vd (T : gz_T) (d : gz_De) : Prop := d.1 ≤ 3 ∧ d.2.1 < T.2.1 ∧ (d.1 = 0 → d.2.2 < T.1) ∧ (d.1 = 1 → d.2.2 = 0) ∧ (d.1 = 2 → d.2.2 < T.2.1 ∧ d.2.2 ≠ d.2.1) ∧ (d.1 = 3 → d.2.2 = 15 ∨ (d.2.2 < T.2.1 ∧ d.2.2 ≠ d.2.1))
def gl (T : gz_T) (D : gz_D) (ds : List gz_De) : Prop := ds.length ≤ 40 ∧ (∀ d ∈ ds, vd T d) ∧ ∀ n, n ≤ ds.length → wd T (rn T D (ds.take n))
/-- a goose of the class: at g, its facts at g + 1 -/
def gv (h : gz_H) (g : Nat) (l : List Nat) : Prop := h.1[g]? = some (2, 6) ∧ h.1[g + 1]? = some (10, 8) ∧ h.2.2.2 g 0 = some (g + 1) ∧ l.length ≤ 8 ∧ h.2.1 g 1 = nI l.length ∧ ∀ k, k < l.length → h.2.1 (g + 1) k = nI (l.getD k 0)
/-- a flock of the class, at fa -/
def xv (h : gz_H) (fa : Nat) (T : gz_T) (D : gz_D) : Prop := h.2.1 fa 2 = nI T.1 ∧ h.2.1 fa 3 = nI T.2.1 ∧ (∀ k, k < T.1 → h.2.1 (fa + 1) k = nI (T.2.2.1 k)) ∧
  ∀ i, i < T.2.1 → gv h (fa + 3 + 2 * i) (D i).1 ∧ h.2.1 (fa + 3 + 2 * i) 2 = nI (T.2.2.2.1 i) ∧ h.2.1 (fa + 3 + 2 * i) 3 = nI (T.2.2.2.2.1 i) ∧ h.2.1 (fa + 3 + 2 * i) 4 = nI (T.2.2.2.2.2 i) ∧ h.2.1 (fa + 3 + 2 * i) 5 = (if (D i).2 = true then 1 else 0)
def dcode (d : gz_De) : Nat := d.1 * 256 + d.2.1 * 16 + d.2.2
/-- a log of the class, at la -/
def lgv (h : gz_H) (la : Nat) (ds : List gz_De) : Prop := h.2.1 la 1 = nI ds.length ∧ ∀ k, k < ds.length → h.2.1 (la + 1) k = nI (dcode (ds.getD k (0, 0, 0)))
def gbits (n : Nat) (D : gz_D) : Nat := fo (fun i => if (D i).2 = true then 2 ^ i else 0) n
/-- a flock of the reference, in its row from B on -/
def mv (h : gz_H) (B : Nat) (n : Nat) (D : gz_D) : Prop := h.2.1 86 (B + 1) = nI (gbits n D) ∧ ∀ i, i < n → h.2.1 86 (B + 2 + i) = nI (D i).1.length ∧ ∀ k, k < (D i).1.length → h.2.1 86 (B + 8 + 8 * i + k) = nI ((D i).1.getD k 0)
def mb (h : gz_H) (B : Nat) (T : gz_T) (D : gz_D) (ds : List gz_De) : Prop := h.2.1 86 B = nI ds.length ∧ mv h B T.2.1 (rn T D ds) ∧ ∀ n, n < ds.length → mv h (B + 55 + 55 * n) T.2.1 (rn T D (ds.take n))
def msv (h : gz_H) (T : gz_T) : Prop := h.2.1 85 1 = nI T.1 ∧ h.2.1 85 3 = nI T.2.1 ∧ (∀ k, k < T.1 → h.2.1 87 k = nI (T.2.2.1 k)) ∧ ∀ i, i < T.2.1 → h.2.1 88 i = nI (T.2.2.2.1 i) ∧ h.2.1 89 i = nI (T.2.2.2.2.1 i) ∧ h.2.1 90 i = nI (T.2.2.2.2.2 i)
def xk (h : gz_H) (k : Nat) (e : Option (List gz_De)) : Prop := match e with
  | none => h.2.1 (79 + 2 * k) 1 = -1
  | some es => lgv h (79 + 2 * k) es
def mk (h : gz_H) (k : Nat) (T : gz_T) (D : gz_D) (e : Option (List gz_De)) : Prop := match e with
  | none => h.2.1 86 (2256 * (k + 1)) = -1
  | some es => mb h (2256 * (k + 1)) T D es
/-- the flocks of both agree: T, D (the start), the deeds, the kept ones' deeds, where the start lies -/
def gz_Fv (h : gz_H) (T : gz_T) (D : gz_D) (ds : List gz_De) (ks : Nat → Option (List gz_De)) (sa : Nat) : Prop :=
  (wsT T ∧ wd T D ∧ (∀ i, i < T.2.1 → (D i).2 = false) ∧ gl T D ds ∧ ∀ k es, k < 3 → ks k = some es → gl T D es) ∧
  ((sa = 43 ∨ sa = 58) ∧ h.2.2.2 0 10 = some sa ∧ h.2.2.2 0 11 = some (101 - sa)) ∧
  (xv h sa T D ∧ xv h 28 T (rn T D ds) ∧ lgv h 25 ds ∧ ∀ k, k < 3 → xk h k (ks k)) ∧
  (msv h T ∧ mb h 0 T D ds ∧ ∀ k, k < 3 → mk h k T D (ks k))
def gz_Fk (h : gz_H) : Prop := ∃ T D ds ks sa, gz_Fv h T D ds ks sa
theorem gv.cg {h h' : gz_H} {g : Nat} {l : List Nat} (H : gv h g l) (e1 : h'.1 = h.1) (e2 : h'.2.2.2 = h.2.2.2) (e : ∀ k, h'.2.1 g k = h.2.1 g k ∧ h'.2.1 (g + 1) k = h.2.1 (g + 1) k) : gv h' g l := by
  obtain ⟨a1, a2, a3, a4, a5, a6⟩ := H
  exact ⟨by rw [e1]; exact a1, by rw [e1]; exact a2, by rw [e2]; exact a3, a4, by rw [(e 1).1]; exact a5, fun k hk => by rw [(e k).2]; exact a6 k hk⟩
theorem xv.cg {h h' : gz_H} {fa : Nat} {T : gz_T} {D : gz_D} (H : xv h fa T D) (hG : T.2.1 ≤ 6) (e1 : h'.1 = h.1) (e2 : h'.2.2.2 = h.2.2.2) (e : ∀ a k, fa ≤ a → a ≤ fa + 14 → h'.2.1 a k = h.2.1 a k) : xv h' fa T D := by
  obtain ⟨a1, a2, a3, a4⟩ := H
  refine ⟨by rw [e fa 2 (by omega) (by omega)]; exact a1, by rw [e fa 3 (by omega) (by omega)]; exact a2, fun k hk => by rw [e (fa + 1) k (by omega) (by omega)]; exact a3 k hk, fun i hi => ?_⟩
  obtain ⟨b1, b2, b3, b4, b5⟩ := a4 i hi
  have eg : ∀ k, h'.2.1 (fa + 3 + 2 * i) k = h.2.1 (fa + 3 + 2 * i) k := fun k => e _ k (by omega) (by omega)
  exact ⟨b1.cg e1 e2 (fun k => ⟨eg k, e _ k (by omega) (by omega)⟩), by rw [eg]; exact b2, by rw [eg]; exact b3, by rw [eg]; exact b4, by rw [eg]; exact b5⟩
theorem lgv.cg {h h' : gz_H} {la : Nat} {ds : List gz_De} (H : lgv h la ds) (e : ∀ a k, la ≤ a → a ≤ la + 1 → h'.2.1 a k = h.2.1 a k) : lgv h' la ds :=
  ⟨by rw [e la 1 (by omega) (by omega)]; exact H.1, fun k hk => by rw [e (la + 1) k (by omega) (by omega)]; exact H.2 k hk⟩
theorem mv.cg {h h' : gz_H} {B n : Nat} {D : gz_D} (H : mv h B n D) (e : ∀ k, h'.2.1 86 k = h.2.1 86 k) : mv h' B n D :=
  ⟨by rw [e]; exact H.1, fun i hi => ⟨by rw [e]; exact (H.2 i hi).1, fun k hk => by rw [e]; exact (H.2 i hi).2 k hk⟩⟩
theorem mb.cg {h h' : gz_H} {B : Nat} {T : gz_T} {D : gz_D} {ds : List gz_De} (H : mb h B T D ds) (e : ∀ k, h'.2.1 86 k = h.2.1 86 k) : mb h' B T D ds :=
  ⟨by rw [e]; exact H.1, H.2.1.cg e, fun n hn => (H.2.2 n hn).cg e⟩
theorem gz_Fv.cg {h h' : gz_H} {T : gz_T} {D : gz_D} {ds : List gz_De} {ks : Nat → Option (List gz_De)} {sa : Nat} (H : gz_Fv h T D ds ks sa) (e1 : h'.1 = h.1) (e2 : h'.2.2.2 = h.2.2.2) (e : ∀ a k, gz_ff a k → h'.2.1 a k = h.2.1 a k) : gz_Fv h' T D ds ks sa := by
  obtain ⟨w, ⟨s1, s2, s3⟩, ⟨x1, x2, x3, x4⟩, ⟨m1, m2, m3⟩⟩ := H
  have hG := w.1.2.1
  have e86 : ∀ k, h'.2.1 86 k = h.2.1 86 k := fun k => e 86 k (by unfold gz_ff; omega)
  refine ⟨w, ⟨s1, by rw [e2]; exact s2, by rw [e2]; exact s3⟩, ⟨x1.cg hG e1 e2 (fun a k h1 h2 => e a k (by unfold gz_ff; omega)), x2.cg hG e1 e2 (fun a k h1 h2 => e a k (by unfold gz_ff; omega)), x3.cg (fun a k h1 h2 => e a k (by unfold gz_ff; omega)), fun k hk => ?_⟩, ⟨?_, m2.cg e86, fun k hk => ?_⟩⟩
  · have := x4 k hk
    unfold xk at this ⊢
    cases hks : ks k with
    | none =>
      rw [hks] at this
      show h'.2.1 (79 + 2 * k) 1 = -1
      rw [e _ _ (by unfold gz_ff; omega)]
      exact this
    | some es =>
      rw [hks] at this
      exact lgv.cg this (fun a j h1 h2 => e a j (by unfold gz_ff; omega))
  · obtain ⟨b1, b2, b3, b4⟩ := m1
    refine ⟨by rw [e 85 1 (by unfold gz_ff; omega)]; exact b1, by rw [e 85 3 (by unfold gz_ff; omega)]; exact b2, fun k hk => by rw [e 87 k (by unfold gz_ff; omega)]; exact b3 k hk, fun i hi => ?_⟩
    rw [e 88 i (by unfold gz_ff; omega), e 89 i (by unfold gz_ff; omega), e 90 i (by unfold gz_ff; omega)]
    exact b4 i hi
  · have := m3 k hk
    unfold mk at this ⊢
    cases hks : ks k with
    | none =>
      rw [hks] at this
      show h'.2.1 86 _ = -1
      rw [e86]
      exact this
    | some es =>
      rw [hks] at this
      exact mb.cg this e86
/-- THE INVARIANT -/
def gz_Iv (h : gz_H) : Prop := gz_In h ∧ gz_Fk h
theorem gz_St.iv {h h' : gz_H} (S : gz_St h h') (I : gz_Iv h) : gz_Iv h' := by
  obtain ⟨T, D, ds, ks, sa, F⟩ := I.2
  exact ⟨S.1, T, D, ds, ks, sa, F.cg (S.1.1.1.trans I.1.1.1.symm) S.2.1 S.2.2⟩
/-- both answer alike, and P holds behind -/
def gz_ag {α : Type} (X M : gz_H → Option (α × gz_H)) (h : gz_H) (P : gz_H → Prop) : Prop := ∃ v h1 h2, X h = some (v, h1) ∧ h1.1 = gz_SH ∧ M h1 = some (v, h2) ∧ P h2
end
section
/-! PURE: row, lay, at, tear, copy, mean, text, put agree -/
section
variable {h : gz_H} {s o b z c g : Nat}
theorem x_ref_out (H : gz_La h) (S : gz_Sf h s o b z c g) {x i : Int32} (hx : p_out x c) : fX8_refusalOfCell 0 s x i h = some (-1, h) := by
  unfold fX8_refusalOfCell fX8_refusalOfCell_0
  rw [ck_t (sh_t S.1), p_knows_out S hx, b2_s, if_pos rfl]
theorem x_ref_no (H : gz_La h) (S : gz_Sf h s o b z c g) {k : Nat} (hk : k < c) (e : h.2.1 z k = -1) (i : Int32) : fX8_refusalOfCell 0 s (nI k) i h = some (-3, gz_xf h 1) := by
  unfold fX8_refusalOfCell fX8_refusalOfCell_0
  rw [ck_t (sh_t S.1), p_knows_in S hk, b2_s, if_neg (by decide), ck_t (sh_t S.1), p_has0 S hk e, b2_s, if_pos rfl, ck_t (H.ck rfl), H.rf 0 3 18 (by decide), br_s, ck_t (H.ck rfl), show (1 : Int32) = nI 1 from rfl, p_answer H (by decide), b2_s]
theorem x_ref_41 (H : gz_La h) : fX8_refusalOfCell_41 0 h = some (-3, gz_xf h 2) := by
  unfold fX8_refusalOfCell_41
  rw [ck_t (H.ck rfl), H.rf 0 3 18 (by decide), br_s, ck_t (H.ck rfl), show (2 : Int32) = nI 2 from rfl, p_answer H (by decide), b2_s]
theorem n_ne (n : Nat) (hn : n < 2 ^ 31) : ¬ nI n = -1 := fun e => by
  have h1 := nI_toInt hn
  rw [e] at h1
  have h2 : (-1 : Int32).toInt = -1 := rfl
  omega
theorem x_ref_be (H : gz_La h) (S : gz_Sf h s o b z c g) {k n : Nat} (hk : k < c) (hn : n < 2 ^ 31) (e : h.2.1 z k = nI n) {i : Int32} (hi : p_out i n) : fX8_refusalOfCell 0 s (nI k) i h = some (-3, gz_xf h 2) := by
  have S0 := S
  obtain ⟨s1, s2, s3, s4, s5, s6, s7, s8, s9⟩ := S
  unfold fX8_refusalOfCell fX8_refusalOfCell_0
  rw [ck_t (sh_t s1), p_knows_in S0 hk, b2_s, if_neg (by decide), ck_t (sh_t s1), p_has1 S0 hk (by rw [e]; exact n_ne n hn), b2_s, if_neg (by decide)]
  by_cases e1 : i < 0
  · rw [if_pos e1, x_ref_41 H]
  · rw [if_neg e1, ck_t (sh_t s1), s3, br_s, ck_t (inb_nI s5 hk (by omega)), nI_clamp (by omega), e, if_neg (Int32.not_lt.mpr (hi.resolve_left e1)), x_ref_41 H]
theorem x_ref_ok (S : gz_Sf h s o b z c g) {k n j : Nat} (hk : k < c) (hn : n < 2 ^ 31) (e : h.2.1 z k = nI n) (hj : j < n) : fX8_refusalOfCell 0 s (nI k) (nI j) h = some (0, h) := by
  have S0 := S
  obtain ⟨s1, s2, s3, s4, s5, s6, s7, s8, s9⟩ := S
  unfold fX8_refusalOfCell fX8_refusalOfCell_0
  rw [ck_t (sh_t s1), p_knows_in S0 hk, b2_s, if_neg (by decide), ck_t (sh_t s1), p_has1 S0 hk (by rw [e]; exact n_ne n hn), b2_s, if_neg (by decide), if_neg (nI_pos (by omega)), ck_t (sh_t s1), s3, br_s, ck_t (inb_nI s5 hk (by omega)), nI_clamp (by omega), e, if_pos (nI_lt hj (by omega))]
end
theorem m_ref_out {h : gz_H} {x i : Int32} (hx : p_out x 6) : fX9_refused 85 x i h = some (-1, h) := by
  unfold fX9_refused fX9_refused_0
  rw [p_isRow_out hx, b2_s, if_pos rfl]
theorem m_ref_no {h : gz_H} (H : gz_La h) {k : Nat} (hk : k < 6) (e : h.2.1 91 k = -1) (i : Int32) : fX9_refused 85 (nI k) i h = some (-3, gz_mf h 1) := by
  unfold fX9_refused fX9_refused_0
  rw [p_isRow_in hk, b2_s, if_neg (by decide), ck_t (H.ck rfl), H.rf 85 7 91 (by decide), br_s, ck_t (inb_nI (k := 10) (n := 6) (H.sh rfl) hk (by decide)), nI_clamp (by omega), e, if_neg (by decide), show (1 : Int32) = nI 1 from rfl, p_find H (by decide), b2_s]
/-- in(i, 0, n - 1) -/
theorem p_in0_out {h : gz_H} {i : Int32} {n : Nat} (hn : n < 2 ^ 31) (hi : p_out i n) : fX9_in i.toInt64 (0 : Int64) (nI n - (1 : Int32)).toInt64 h = some (0, h) := by
  rw [p_in, if_neg]
  intro z
  have h1 := p_out_toInt hn hi
  have e : (nI n - (1 : Int32)).toInt64.toInt = (n : Int) - 1 := by
    rw [l_of]
    cases n with
    | zero => rfl
    | succ n =>
      rw [nI_pred, nI_toInt (by omega)]
      omega
  rw [e] at z
  have z1 : 0 ≤ i.toInt := z.1
  omega
theorem p_in0_in {h : gz_H} {j n : Nat} (hn : n < 2 ^ 31) (hj : j < n) : fX9_in (nI j).toInt64 (0 : Int64) (nI n - (1 : Int32)).toInt64 h = some (1, h) := by
  rw [p_in, if_pos]
  have e : (nI n - (1 : Int32)).toInt64.toInt = (n : Int) - 1 := by
    rw [l_of]
    cases n with
    | zero => omega
    | succ n =>
      rw [nI_pred, nI_toInt (by omega)]
      omega
  rw [e, nI_toInt (by omega)]
  exact ⟨by simp, by omega⟩
theorem m_ref_be {h : gz_H} (H : gz_La h) {k n : Nat} (hk : k < 6) (hn : n < 2 ^ 31) (e : h.2.1 91 k = nI n) {i : Int32} (hi : p_out i n) : fX9_refused 85 (nI k) i h = some (-3, gz_mf h 2) := by
  unfold fX9_refused fX9_refused_0
  rw [p_isRow_in hk, b2_s, if_neg (by decide), ck_t (H.ck rfl), H.rf 85 7 91 (by decide), br_s, ck_t (inb_nI (k := 10) (n := 6) (H.sh rfl) hk (by decide)), nI_clamp (by omega), e, if_pos (nI_pos' hn), p_in0_out hn hi, b2_s, if_pos rfl, ck_t (H.ck rfl), show (2 : Int32) = nI 2 from rfl, p_find H (by decide), b2_s]
theorem m_ref_ok {h : gz_H} (H : gz_La h) {k n j : Nat} (hk : k < 6) (hn : n < 2 ^ 31) (e : h.2.1 91 k = nI n) (hj : j < n) : fX9_refused 85 (nI k) (nI j) h = some (0, h) := by
  unfold fX9_refused fX9_refused_0
  rw [p_isRow_in hk, b2_s, if_neg (by decide), ck_t (H.ck rfl), H.rf 85 7 91 (by decide), br_s, ck_t (inb_nI (k := 10) (n := 6) (H.sh rfl) hk (by decide)), nI_clamp (by omega), e, if_pos (nI_pos' hn), p_in0_in hn hj, b2_s, if_neg (by decide)]
theorem p_tell {h : gz_H} (H : gz_La h) (v : Int32) : fX9_tell 85 v h = some (1, uI h 85 11 v) := by
  unfold fX9_tell fX9_tell_0
  rw [ck_t (H.ck rfl), lt_d]
/-- 40 r + k as an int -/
theorem n_mul (a b c : Nat) : nI a * nI b + nI c = nI (a * b + c) := by rw [pk_mul, nI_add]
/-- where both sides' answers are told: a finding -/
theorem st_findE {h : gz_H} (I : gz_In h) {f : Nat} (hf : f < 6) {X M : gz_H → Option (Int32 × gz_H)} (hx : X h = some (-3, gz_xf h f)) (hm : M (gz_xf h f) = some (-3, gz_mf (gz_xf h f) f)) : gz_ag X M h (gz_St h) := ⟨-3, _, _, hx, I.1.1, hm, st_find I hf⟩
theorem st_sameE {h : gz_H} (I : gz_In h) {v : Int32} {X M : gz_H → Option (Int32 × gz_H)} (hx : X h = some (v, h)) (hm : M h = some (v, h)) : gz_ag X M h (gz_St h) := ⟨v, _, _, hx, I.1.1, hm, gz_St.rf I⟩
/-- asked: both tell v -/
theorem st_ask {h h' : gz_H} {v : Int32} (I : gz_In h') (S : gz_St h h') : gz_St h (uI (uI h' 0 18 v) 85 11 v) := by
  obtain ⟨H, F, Rw, Tx, Sc⟩ := I
  have off : ∀ a k, (a ≠ 0 ∨ k ≠ 18) → (a ≠ 85 ∨ k ≠ 11) → (uI (uI h' 0 18 v) 85 11 v).2.1 a k = h'.2.1 a k := fun a k h1 h2 => by rw [uI_I, if_neg (by omega), uI_I, if_neg (by omega)]
  refine ⟨⟨H.of rfl rfl, F.cg (fun a k ha => off a k (by omega) (by omega)), Rw.cg (fun a k ha => off a k (by omega) (by omega)), Tx.cg (fun a k ha => off a k (by omega) (by omega)), ?_⟩, S.2.1, fun a k ha => ?_⟩
  · obtain ⟨s1, s2, s3, s4, s5⟩ := Sc
    refine ⟨?_, ?_, fun f hf => ?_, s4, s5⟩
    · rw [uI_I, if_neg (by omega), uI_I, if_pos ⟨rfl, rfl⟩, uI_I, if_pos ⟨rfl, rfl⟩]
    · rw [off 18 1 (by omega) (by omega), off 85 14 (by omega) (by omega)]; exact s2
    · rw [off 19 f (by omega) (by omega), off 95 f (by omega) (by omega)]; exact s3 f hf
  · have hb := ha
    unfold gz_ff at hb
    rw [off a k (by omega) (by omega)]
    exact S.2.2 a k ha
theorem st_tear {h : gz_H} (I : gz_In h) (x : Int32) : gz_ag (fX8_tear 0 x) (fX9_tear 85 x) h (gz_St h) := by
  have I0 := I
  obtain ⟨H, F, Rw, Tx, Sc⟩ := I
  have S := H.rows F
  rcases p_cases x 6 (by decide) with hx | ⟨r, hr, rfl⟩
  · refine ⟨-1, h, h, ?_, H.1, ?_, gz_St.rf I0⟩
    · unfold fX8_tear fX8_tear_0
      rw [ck_t (H.ck rfl), H.rf 0 0 1 (by decide), br_s, ck_t (H.ck rfl), p_knows_out S hx, b2_s, if_pos rfl]
    · unfold fX9_tear fX9_tear_0
      rw [p_isRow_out hx, b2_s, if_pos rfl]
  · obtain ⟨q1, q2, q3⟩ := Rw r hr
    have cl : (nI r).toNatClampNeg = r := nI_clamp (by omega)
    by_cases e : h.2.1 9 r = -1
    · refine ⟨-3, gz_xf h 1, gz_mf (gz_xf h 1) 1, ?_, H.1, ?_, st_find I0 (by decide)⟩
      · unfold fX8_tear fX8_tear_0
        rw [ck_t (H.ck rfl), H.rf 0 0 1 (by decide), br_s, ck_t (H.ck rfl), p_knows_in S hr, b2_s, if_neg (by decide), ck_t (H.ck rfl), H.rf 0 0 1 (by decide), br_s, ck_t (H.ck rfl), p_has0 S hr e, b2_s, if_pos rfl, ck_t (H.ck rfl), H.rf 0 3 18 (by decide), br_s, ck_t (H.ck rfl)]
        rw [show (1 : Int32) = nI 1 from rfl, p_answer H (by decide), b2_s]
      · unfold fX9_tear fX9_tear_0
        have H1 := gz_xf_La (f := 1) H
        rw [p_isRow_in hr, b2_s, if_neg (by decide), ck_t (H1.ck rfl), H1.rf 85 7 91 (by decide), br_s, ck_t (inb_nI (k := 10) (n := 6) (H1.sh rfl) hr (by decide)), cl, gz_xf_I 91 r (by decide) (by decide), ← q1, e, if_neg (by decide)]
        rw [show (1 : Int32) = nI 1 from rfl, p_find H1 (by decide), b2_s]
    · obtain ⟨n, hn, en⟩ := q2.resolve_left e
      refine ⟨1, uI h 9 r (-1), uI (uI h 9 r (-1)) 91 r (-1), ?_, H.1, ?_, ?_⟩
      · unfold fX8_tear fX8_tear_0
        rw [ck_t (H.ck rfl), H.rf 0 0 1 (by decide), br_s, ck_t (H.ck rfl), p_knows_in S hr, b2_s, if_neg (by decide), ck_t (H.ck rfl), H.rf 0 0 1 (by decide), br_s, ck_t (H.ck rfl), p_has1 S hr e, b2_s, if_neg (by decide), ck_t (H.ck rfl), H.rf 0 0 1 (by decide), br_s, ck_t (H.ck rfl), H.rf 1 2 9 (by decide), br_s, ck_t (inb_nI (k := 10) (n := 6) (H.sh rfl) hr (by decide)), cl, lt_d]
      · unfold fX9_tear fX9_tear_0
        have H1 : gz_La (uI h 9 r (-1)) := H.of rfl rfl
        have m91 : (uI h 9 r (-1)).2.1 91 r = nI n := by rw [uI_I, if_neg (by omega), ← q1]; exact en
        rw [p_isRow_in hr, b2_s, if_neg (by decide), ck_t (H1.ck rfl), H1.rf 85 7 91 (by decide), br_s, ck_t (inb_nI (k := 10) (n := 6) (H1.sh rfl) hr (by decide)), cl, m91, if_pos (nI_pos' (by omega)), lt_d]
      · have off : ∀ a k, a ≠ 9 → a ≠ 91 → (uI (uI h 9 r (-1)) 91 r (-1)).2.1 a k = h.2.1 a k := fun a k h1 h2 => by rw [uI_I, if_neg (by omega), uI_I, if_neg (by omega)]
        refine ⟨⟨H.of rfl rfl, F.cg (fun a k ha => off a k (by omega) (by omega)), ?_, Tx.cg (fun a k ha => off a k (by omega) (by omega)), Sc.cg (fun a k ha => off a k (by omega) (by omega)) rfl⟩, rfl, fun a k ha => by unfold gz_ff at ha; exact off a k (by omega) (by omega)⟩
        intro r' hr'
        obtain ⟨t1, t2, t3⟩ := Rw r' hr'
        refine ⟨?_, ?_, fun k hk => ?_⟩
        · simp only [uI_I]
          by_cases ee : r' = r
          · simp [ee]
          · simp [ee, t1]
        · simp only [uI_I]
          by_cases ee : r' = r
          · simp [ee]
          · simp [ee]; exact t2
        · rw [off (3 + r') k (by omega) (by omega), off 92 _ (by omega) (by omega)]
          exact t3 k hk

/-- a row's place in the class and in the reference -/
theorem rw_put {h : gz_H} (I : gz_In h) {r n j : Nat} (hr : r < 6) (hj : j < 40) (v : Int32) : gz_St h (uI (uI h (3 + r) j v) 92 (40 * r + j) v) := by
  obtain ⟨H, F, Rw, Tx, Sc⟩ := I
  have off : ∀ a k, (a < 3 ∨ 8 < a) → a ≠ 92 → (uI (uI h (3 + r) j v) 92 (40 * r + j) v).2.1 a k = h.2.1 a k := fun a k h1 h2 => by rw [uI_I, if_neg (by omega), uI_I, if_neg (by omega)]
  refine ⟨⟨H.of rfl rfl, F.cg (fun a k ha => off a k (by omega) (by omega)), ?_, Tx.cg (fun a k ha => off a k (by omega) (by omega)), Sc.cg (fun a k ha => off a k (by omega) (by omega)) rfl⟩, rfl, fun a k ha => by unfold gz_ff at ha; exact off a k (by omega) (by omega)⟩
  intro r' hr'
  obtain ⟨t1, t2, t3⟩ := Rw r' hr'
  rw [off 9 r' (by omega) (by omega), off 91 r' (by omega) (by omega)]
  refine ⟨t1, t2, fun k hk => ?_⟩
  have := t3 k hk
  by_cases e : r' = r ∧ k = j
  · obtain ⟨rfl, rfl⟩ := e
    rw [uI_I, if_neg (by omega), uI_I, if_pos ⟨rfl, rfl⟩, uI_I, if_pos ⟨rfl, rfl⟩]
  · rw [uI_I, if_neg (by omega), uI_I, if_neg (by omega), uI_I, if_neg (by omega), uI_I, if_neg (by omega)]
    exact this
theorem st_trans {h h1 h2 : gz_H} (a : gz_St h h1) (b : gz_St h1 h2) : gz_St h h2 := ⟨b.1, b.2.1.trans a.2.1, fun x k hx => (b.2.2 x k hx).trans (a.2.2 x k hx)⟩
/-- writes that don't touch each other change places -/
theorem uI_sw {h : gz_H} {a k b j : Nat} {v w : Int32} (e : a ≠ b ∨ k ≠ j) : uI (uI h a k v) b j w = uI (uI h b j w) a k v := by
  obtain ⟨s, I, L, R⟩ := h
  refine congrArg (Prod.mk s) (congrArg (fun x => (x, L, R)) ?_)
  show (uI (uI (s, I, L, R) a k v) b j w).2.1 = (uI (uI (s, I, L, R) b j w) a k v).2.1
  funext x y
  rw [uI_I, uI_I, uI_I, uI_I]
  by_cases c1 : x = a ∧ y = k
  · rw [if_neg (by omega), if_pos c1, if_pos c1]
  · rw [if_neg c1, if_neg c1]
theorem st_at {h : gz_H} (I : gz_In h) (x i : Int32) : gz_ag (fX8_at 0 x i) (fX9_at 85 x i) h (gz_St h) := by
  have I0 := I
  obtain ⟨H, F, Rw, Tx, Sc⟩ := I
  have S := H.rows F
  have x1 : ∀ (y : Int32) (h' : gz_H), fX8_refusalOfCell 0 1 x i h = some (y, h') → ¬ y = 0 → fX8_at 0 x i h = some (y, h') := by
    intro y h' e hy
    unfold fX8_at fX8_at_0
    rw [ck_t (H.ck rfl), H.rf 0 0 1 (by decide), br_s, e, b2_s, if_neg hy]
  have m1 : ∀ (y : Int32) (g h' : gz_H), gz_La g → fX9_refused 85 x i g = some (y, h') → ¬ y = 0 → fX9_at 85 x i g = some (y, h') := by
    intro y g h' Hg e hy
    unfold fX9_at fX9_at_0
    rw [ck_t (Hg.ck rfl), e, b2_s, if_neg hy]
  rcases p_cases x 6 (by decide) with hx | ⟨r, hr, rfl⟩
  · exact st_sameE I0 (v := -1) (X := fX8_at 0 x i) (M := fX9_at 85 x i) (x1 _ _ (x_ref_out H S hx) (by decide)) (m1 _ _ _ H (m_ref_out hx) (by decide))
  · obtain ⟨q1, q2, q3⟩ := Rw r hr
    have cl : (nI r).toNatClampNeg = r := nI_clamp (by omega)
    rcases q2 with e | ⟨n, hn, en⟩
    · exact st_findE I0 (f := 1) (by decide) (X := fX8_at 0 (nI r) i) (M := fX9_at 85 (nI r) i) (x1 _ _ (x_ref_no H S hr e i) (by decide)) (m1 _ _ _ (gz_xf_La H) (m_ref_no (gz_xf_La H) hr (by rw [gz_xf_I 91 r (by decide) (by decide), ← q1]; exact e) i) (by decide))
    · rcases p_cases i n (by omega) with hi | ⟨j, hj, rfl⟩
      · exact st_findE I0 (f := 2) (by decide) (X := fX8_at 0 (nI r) i) (M := fX9_at 85 (nI r) i) (x1 _ _ (x_ref_be H S hr (by omega) en hi) (by decide)) (m1 _ _ _ (gz_xf_La H) (m_ref_be (gz_xf_La H) hr (n := n) (by omega) (by rw [gz_xf_I 91 r (by decide) (by decide), ← q1]; exact en) hi) (by decide))
      · have cj : (nI j).toNatClampNeg = j := nI_clamp (by omega)
        refine ⟨1, uI h 0 18 (h.2.1 (3 + r) j), uI (uI h 0 18 (h.2.1 (3 + r) j)) 85 11 (h.2.1 (3 + r) j), ?_, H.1, ?_, st_ask I0 (gz_St.rf I0)⟩
        · unfold fX8_at fX8_at_0
          rw [ck_t (H.ck rfl), H.rf 0 0 1 (by decide), br_s, x_ref_ok S hr (by omega) en hj, b2_s, if_pos rfl, ck_t (H.ck rfl), H.rf 0 0 1 (by decide), br_s, ck_t (H.ck rfl), H.rf 1 1 2 (by decide), br_s, ck_t (inb_nI (k := 13) (n := 6) (H.sh rfl) hr (by decide)), cl, (S.2.2.2.2.2.1 r hr).1, br_s, ck_t (inb_nI (S.2.2.2.2.2.1 r hr).2 (by omega) (by decide)), cj, lt_d]
        · have H1 : gz_La (uI h 0 18 (h.2.1 (3 + r) j)) := H.of rfl rfl
          have m91 : (uI h 0 18 (h.2.1 (3 + r) j)).2.1 91 r = nI n := by rw [uI_I, if_neg (by omega), ← q1]; exact en
          have m92 : (uI h 0 18 (h.2.1 (3 + r) j)).2.1 92 (40 * r + j) = h.2.1 (3 + r) j := by rw [uI_I, if_neg (by omega), q3 j (by omega)]
          unfold fX9_at fX9_at_0
          rw [ck_t (H1.ck rfl), m_ref_ok H1 hr (by omega) m91 hj, b2_s, if_pos rfl, ck_t (H1.ck rfl), H1.rf 85 8 92 (by decide), br_s, show (40 : Int32) = nI 40 from rfl, n_mul, ck_t (inb_nI (k := 10) (n := 240) (H1.sh rfl) (by omega) (by decide)), nI_clamp (by omega), m92, p_tell H1, b2_s]
theorem st_lay {h : gz_H} (I : gz_In h) (x i v : Int32) : gz_ag (fX8_lay 0 x i v) (fX9_lay 85 x i v) h (gz_St h) := by
  have I0 := I
  obtain ⟨H, F, Rw, Tx, Sc⟩ := I
  have S := H.rows F
  have x1 : ∀ (y : Int32) (h' : gz_H), fX8_refusalOfCell 0 1 x i h = some (y, h') → ¬ y = 0 → fX8_lay 0 x i v h = some (y, h') := by
    intro y h' e hy
    unfold fX8_lay fX8_lay_0
    rw [ck_t (H.ck rfl), H.rf 0 0 1 (by decide), br_s, e, b2_s, if_neg hy]
  have m1 : ∀ (y : Int32) (g h' : gz_H), gz_La g → fX9_refused 85 x i g = some (y, h') → ¬ y = 0 → fX9_lay 85 x i v g = some (y, h') := by
    intro y g h' Hg e hy
    unfold fX9_lay fX9_lay_0
    rw [ck_t (Hg.ck rfl), e, b2_s, if_neg hy]
  rcases p_cases x 6 (by decide) with hx | ⟨r, hr, rfl⟩
  · exact st_sameE I0 (v := -1) (X := fX8_lay 0 x i v) (M := fX9_lay 85 x i v) (x1 _ _ (x_ref_out H S hx) (by decide)) (m1 _ _ _ H (m_ref_out hx) (by decide))
  · obtain ⟨q1, q2, q3⟩ := Rw r hr
    have cl : (nI r).toNatClampNeg = r := nI_clamp (by omega)
    rcases q2 with e | ⟨n, hn, en⟩
    · exact st_findE I0 (f := 1) (by decide) (X := fX8_lay 0 (nI r) i v) (M := fX9_lay 85 (nI r) i v) (x1 _ _ (x_ref_no H S hr e i) (by decide)) (m1 _ _ _ (gz_xf_La H) (m_ref_no (gz_xf_La H) hr (by rw [gz_xf_I 91 r (by decide) (by decide), ← q1]; exact e) i) (by decide))
    · rcases p_cases i n (by omega) with hi | ⟨j, hj, rfl⟩
      · exact st_findE I0 (f := 2) (by decide) (X := fX8_lay 0 (nI r) i v) (M := fX9_lay 85 (nI r) i v) (x1 _ _ (x_ref_be H S hr (by omega) en hi) (by decide)) (m1 _ _ _ (gz_xf_La H) (m_ref_be (gz_xf_La H) hr (n := n) (by omega) (by rw [gz_xf_I 91 r (by decide) (by decide), ← q1]; exact en) hi) (by decide))
      · have cj : (nI j).toNatClampNeg = j := nI_clamp (by omega)
        generalize ho : h.2.1 (3 + r) j = o
        have hsr := S.2.2.2.2.2.1 r hr
        refine ⟨1, uI (uI h 0 18 o) (3 + r) j v, uI (uI (uI (uI h 0 18 o) (3 + r) j v) 92 (40 * r + j) v) 85 11 o, ?_, H.1, ?_, ?_⟩
        · unfold fX8_lay fX8_lay_0
          rw [ck_t (H.ck rfl), H.rf 0 0 1 (by decide), br_s, x_ref_ok S hr (by omega) en hj, b2_s, if_pos rfl, ck_t (H.ck rfl), H.rf 0 0 1 (by decide), br_s, ck_t (H.ck rfl), H.rf 1 1 2 (by decide), br_s, ck_t (inb_nI (k := 13) (n := 6) (H.sh rfl) hr (by decide)), cl, hsr.1, br_s, ck_t (inb_nI hsr.2 (by omega) (by decide)), cj, ho]
          simp only [lt_d, uI_1, uI_R, uI_L, uF_1, uF_R, uF_L, uL_1, uL_I, uL_R, uR_1, uR_I, uR_L, inb_uI, inb_uF, inb_uL, inb_uR, len_uI, len_uF, sh_uI, sh_uF, sh_uL, sh_uR]
          rw [ck_t (H.ck rfl), H.rf 0 0 1 (by decide), br_s, ck_t (H.ck rfl), H.rf 1 1 2 (by decide), br_s, ck_t (inb_nI (k := 13) (n := 6) (H.sh rfl) hr (by decide)), hsr.1, br_s, ck_t (inb_nI hsr.2 (by omega) (by decide))]
        · have H1 : gz_La (uI (uI h 0 18 o) (3 + r) j v) := H.of rfl rfl
          have m91 : (uI (uI h 0 18 o) (3 + r) j v).2.1 91 r = nI n := by rw [uI_I, if_neg (by omega), uI_I, if_neg (by omega), ← q1]; exact en
          have m92 : (uI (uI h 0 18 o) (3 + r) j v).2.1 92 (40 * r + j) = o := by rw [uI_I, if_neg (by omega), uI_I, if_neg (by omega), ← q3 j (by omega)]; exact ho
          have H2 : gz_La (uI (uI (uI h 0 18 o) (3 + r) j v) 92 (40 * r + j) v) := H.of rfl rfl
          unfold fX9_lay fX9_lay_0
          rw [ck_t (H1.ck rfl), m_ref_ok H1 hr (by omega) m91 hj, b2_s, if_pos rfl, ck_t (H1.ck rfl), H1.rf 85 8 92 (by decide), br_s, show (40 : Int32) = nI 40 from rfl, n_mul, ck_t (inb_nI (k := 10) (n := 240) (H1.sh rfl) (by omega) (by decide)), nI_clamp (by omega), m92, lt_d, lt_d, ck_t (H2.ck rfl), p_tell H2, b2_s]
        · have e1 : uI (uI (uI (uI h 0 18 o) (3 + r) j v) 92 (40 * r + j) v) 85 11 o = uI (uI (uI (uI h (3 + r) j v) 92 (40 * r + j) v) 0 18 o) 85 11 o := by
            rw [uI_sw (h := h) (a := 0) (b := 3 + r) (by omega), uI_sw (a := 0) (b := 92) (by omega)]
          rw [e1]
          have T := rw_put (n := n) I0 hr (show j < 40 by omega) v
          exact st_ask T.1 T
theorem ag_iv {α : Type} {X M : gz_H → Option (α × gz_H)} {h : gz_H} (I : gz_Iv h) (A : gz_ag X M h (gz_St h)) : gz_ag X M h gz_Iv := by
  obtain ⟨v, h1, h2, e1, e2, e3, p⟩ := A
  exact ⟨v, h1, h2, e1, e2, e3, p.iv I⟩
theorem op_tear {h : gz_H} (I : gz_Iv h) (x1 : Int32) : gz_ag (fX8_tear 0 x1) (fX9_tear 85 x1) h gz_Iv := ag_iv I (st_tear I.1 x1)
theorem op_at {h : gz_H} (I : gz_Iv h) (x1 x2 : Int32) : gz_ag (fX8_at 0 x1 x2) (fX9_at 85 x1 x2) h gz_Iv := ag_iv I (st_at I.1 x1 x2)
theorem op_lay {h : gz_H} (I : gz_Iv h) (x1 x2 x3 : Int32) : gz_ag (fX8_lay 0 x1 x2 x3) (fX9_lay 85 x1 x2 x3) h gz_Iv := ag_iv I (st_lay I.1 x1 x2 x3)
theorem op_asked {h : gz_H} (I : gz_Iv h) : gz_ag (fX8_asked 0) (fX9_asked 85) h gz_Iv := by
  obtain ⟨H, F, Rw, Tx, Sc⟩ := I.1
  refine ⟨h.2.1 0 18, h, h, ?_, H.1, ?_, I⟩
  · unfold fX8_asked fX8_asked_0
    rw [ck_t (H.ck rfl)]
  · unfold fX9_asked fX9_asked_0
    rw [ck_t (H.ck rfl), Sc.1]
theorem op_finding {h : gz_H} (I : gz_Iv h) : gz_ag (fX8_finding 0) (fX9_finding 85) h gz_Iv := by
  obtain ⟨H, F, Rw, Tx, Sc⟩ := I.1
  refine ⟨h.2.1 18 1, h, h, ?_, H.1, ?_, I⟩
  · unfold fX8_finding fX8_finding_0
    rw [ck_t (H.ck rfl), H.rf 0 3 18 (by decide), br_s, ck_t (H.ck rfl)]
  · unfold fX9_finding fX9_finding_0
    rw [ck_t (H.ck rfl), Sc.2.1]
theorem op_upper {h : gz_H} (I : gz_Iv h) : gz_ag (fX8_upper 0) (fX9_upper 85) h gz_Iv := by
  obtain ⟨H, F, Rw, Tx, Sc⟩ := I.1
  refine ⟨h.2.2.1 20 0, h, h, ?_, H.1, ?_, I⟩
  · unfold fX8_upper fX8_upper_0
    rw [ck_t (H.ck rfl), H.rf 0 4 20 (by decide), br_s, ck_t (H.ck rfl)]
  · unfold fX9_upper fX9_upper_0
    rw [ck_t (H.ck rfl), Sc.2.2.2.1]
theorem op_lower {h : gz_H} (I : gz_Iv h) : gz_ag (fX8_lower 0) (fX9_lower 85) h gz_Iv := by
  obtain ⟨H, F, Rw, Tx, Sc⟩ := I.1
  refine ⟨h.2.2.1 20 1, h, h, ?_, H.1, ?_, I⟩
  · unfold fX8_lower fX8_lower_0
    rw [ck_t (H.ck rfl), H.rf 0 4 20 (by decide), br_s, ck_t (H.ck rfl)]
  · unfold fX9_lower fX9_lower_0
    rw [ck_t (H.ck rfl), Sc.2.2.2.2]
end
section
theorem t_lt0 {x : Int32} : x < 0 ↔ x.toInt < 0 := by rw [Int32.lt_iff_toInt_lt]; rfl
theorem t_le {x : Int32} {n : Nat} (hn : n < 2 ^ 31) : x ≤ nI n ↔ x.toInt ≤ n := by rw [Int32.le_iff_toInt_le, nI_toInt hn]
theorem t_ge {x : Int32} {n : Nat} (hn : n < 2 ^ 31) : nI n ≤ x ↔ (n : Int) ≤ x.toInt := by rw [Int32.le_iff_toInt_le, nI_toInt hn]
theorem t_lt {x : Int32} {n : Nat} (hn : n < 2 ^ 31) : x < nI n ↔ x.toInt < n := by rw [Int32.lt_iff_toInt_lt, nI_toInt hn]
theorem t_ge0 {x : Int32} : 0 ≤ x ↔ 0 ≤ x.toInt := by rw [Int32.le_iff_toInt_le]; rfl
theorem op_findings {h : gz_H} (I : gz_Iv h) (x1 : Int32) : gz_ag (fX8_findings 0 x1) (fX9_findings 85 x1) h gz_Iv := by
  obtain ⟨H, F, Rw, Tx, Sc⟩ := I.1
  by_cases e : 1 ≤ x1.toInt ∧ x1.toInt ≤ 5
  · obtain ⟨j, hj, rfl⟩ : ∃ j : Nat, j < 6 ∧ x1 = nI j := by
      rcases p_cases x1 6 (by decide) with q | q
      · have := p_out_toInt (by decide) q; omega
      · exact q
    rw [nI_toInt (by omega)] at e
    have cl : (nI j).toNatClampNeg = j := nI_clamp (by omega)
    refine ⟨h.2.1 19 j, h, h, ?_, H.1, ?_, I⟩
    · unfold fX8_findings fX8_findings_0
      rw [if_neg (by rw [show (1 : Int32) = nI 1 from rfl, t_lt (by decide), nI_toInt (by omega)]; omega), if_pos (by rw [show (5 : Int32) = nI 5 from rfl, t_le (by decide), nI_toInt (by omega)]; omega), ck_t (H.ck rfl), H.rf 0 3 18 (by decide), br_s, ck_t (H.ck rfl), H.rf 18 0 19 (by decide), br_s, ck_t (inb_nI (k := 10) (n := 6) (H.sh rfl) hj (by decide)), cl]
    · unfold fX9_findings fX9_findings_0
      rw [p_in, if_pos (by rw [nI_toInt (by omega)]; exact ⟨by show (1 : Int) ≤ _; omega, by show _ ≤ (5 : Int); omega⟩), b2_s, if_neg (by decide), ck_t (H.ck rfl), H.rf 85 15 95 (by decide), br_s, ck_t (inb_nI (k := 10) (n := 6) (H.sh rfl) hj (by decide)), cl, Sc.2.2.1 j hj]
  · refine ⟨-1, h, h, ?_, H.1, ?_, I⟩
    · unfold fX8_findings fX8_findings_0 fX8_findings_10
      by_cases e1 : x1 < (1 : Int32)
      · rw [if_pos e1]
      · rw [if_neg e1, if_neg]
        intro e2
        rw [show (1 : Int32) = nI 1 from rfl, t_lt (by decide)] at e1
        rw [show (5 : Int32) = nI 5 from rfl, t_le (by decide)] at e2
        omega
    · unfold fX9_findings fX9_findings_0
      rw [p_in, if_neg (fun z => e ⟨z.1, z.2⟩), b2_s, if_pos rfl]
/-! row, text -/
section
variable {h : gz_H} {s o b z c g : Nat}
theorem x_lo_out (H : gz_La h) (S : gz_Sf h s o b z c g) {x n v : Int32} (hx : p_out x c) : fX8_layOut 0 s x n v h = some (-1, h) := by
  unfold fX8_layOut fX8_layOut_0
  rw [ck_t (sh_t S.1), p_knows_out S hx, b2_s, if_pos rfl]
theorem x_lo_big (H : gz_La h) (S : gz_Sf h s o b z c g) {k : Nat} (hk : k < c) {n v : Int32} (hn : (g : Int) < n.toInt) : fX8_layOut 0 s (nI k) n v h = some (-1, h) := by
  have hg := S.2.2.2.2.2.2.2.2
  unfold fX8_layOut fX8_layOut_0
  rw [ck_t (sh_t S.1), p_knows_in S hk, b2_s, if_neg (by decide), ck_t (sh_t S.1), S.2.2.2.2.2.2.1, if_neg (by rw [t_le (by omega)]; omega)]
theorem x_lo_neg (H : gz_La h) (S : gz_Sf h s o b z c g) {k : Nat} (hk : k < c) {n v : Int32} (hn : n.toInt < 0) : fX8_layOut 0 s (nI k) n v h = some (-3, gz_xf h 5) := by
  have hg := S.2.2.2.2.2.2.2.2
  unfold fX8_layOut fX8_layOut_0
  rw [ck_t (sh_t S.1), p_knows_in S hk, b2_s, if_neg (by decide), ck_t (sh_t S.1), S.2.2.2.2.2.2.1, if_pos (by rw [t_le (by omega)]; omega), if_neg (by rw [t_ge0]; omega), ck_t (H.ck rfl), H.rf 0 3 18 (by decide), br_s, ck_t (H.ck rfl), show (5 : Int32) = nI 5 from rfl, p_answer H (by decide), b2_s]
theorem x_lo_ok (S : gz_Sf h s o b z c g) {k n : Nat} (hk : k < c) (hn : n ≤ g) (v : Int32) : fX8_layOut 0 s (nI k) (nI n) v h = some (nI n, uI (uF h (b + k) (fun j => if j < g then v else h.2.1 (b + k) j)) z k (nI n)) := by
  have hg := S.2.2.2.2.2.2.2.2
  unfold fX8_layOut fX8_layOut_0
  rw [ck_t (sh_t S.1), p_knows_in S hk, b2_s, if_neg (by decide), ck_t (sh_t S.1), S.2.2.2.2.2.2.1, if_pos (nI_le hn (by omega)), if_pos (nI_pos' (by omega)), p_make S hk, b2_s]
end
theorem m_mk9 {r : Nat} (hr : r < 6) : ∀ (m i : Nat) (h : gz_H), i ≤ 40 → 40 < i + m → gz_La h → fX9_makeRow_9 m 85 (nI r) (nI i) h = some ((), uF h 92 (fun k => if 40 * r + i ≤ k ∧ k < 40 * r + 40 then 0 else h.2.1 92 k)) := by
  intro m
  induction m with
  | zero => intro i h h1 h2; omega
  | succ m ih =>
    intro i h h1 h2 H
    rw [fX9_makeRow_9]
    by_cases e : i = 40
    · subst e
      rw [if_pos (by decide)]
      refine congrArg some (congrArg (Prod.mk ()) ?_)
      refine (uF_self (h := h) (a := 92)).symm.trans (uF_cg fun k => ?_)
      rw [if_neg (by omega)]
    · have H1 : gz_La (uI h 92 (40 * r + i) 0) := H.of rfl rfl
      rw [if_neg (show ¬ (40 : Int32) ≤ nI i from nI_ge (a := i) (b := 40) (by omega) (by decide)), ck_t (H.ck rfl), H.rf 85 8 92 (by decide), br_s, show (40 : Int32) = nI 40 from rfl, n_mul, ck_t (inb_nI (k := 10) (n := 240) (H.sh rfl) (by omega) (by decide)), nI_clamp (by omega), lt_d, nI_1, ih (i + 1) _ (by omega) (by omega) H1]
      refine congrArg some (congrArg (Prod.mk ()) ?_)
      rw [uF_uI]
      refine uF_cg fun k => ?_
      rw [uI_I]
      by_cases hk : k = 40 * r + i
      · rw [if_neg (by omega), if_pos ⟨rfl, hk⟩, if_pos (by omega)]
      · have hne : ¬ ((92 : Nat) = 92 ∧ k = 40 * r + i) := fun z => hk z.2
        rw [if_neg hne]
        by_cases h9 : 40 * r + (i + 1) ≤ k ∧ k < 40 * r + 40
        · rw [if_pos h9, if_pos (by omega)]
        · rw [if_neg h9, if_neg (by omega)]
theorem m_mkRow {h : gz_H} (H : gz_La h) {r : Nat} (hr : r < 6) (n : Int32) : fX9_makeRow 85 (nI r) n h = some ((), uF (uI h 91 r n) 92 (fun k => if 40 * r ≤ k ∧ k < 40 * r + 40 then 0 else h.2.1 92 k)) := by
  have H1 : gz_La (uI h 91 r n) := H.of rfl rfl
  unfold fX9_makeRow fX9_makeRow_0
  rw [ck_t (H.ck rfl), H.rf 85 7 91 (by decide), br_s, ck_t (inb_nI (k := 10) (n := 6) (H.sh rfl) hr (by decide)), nI_clamp (by omega), lt_d, show (0 : Int32) = nI 0 from rfl, m_mk9 hr gz_fu 0 _ (by omega) (by show 40 < 0 + 100000; omega) H1]
  refine congrArg some (congrArg (Prod.mk ()) (uF_cg fun k => ?_))
  rw [uI_I, if_neg (show ¬ ((92 : Nat) = 91 ∧ k = r) from by omega)]
  rfl
/-- a row anew, in both -/
theorem rw_new {h : gz_H} (I : gz_In h) {r n : Nat} (hr : r < 6) (hn : n ≤ 40) (f g : Nat → Int32) (hf : ∀ k, k < 40 → f k = 0) (hg : ∀ k, g k = if 40 * r ≤ k ∧ k < 40 * r + 40 then 0 else h.2.1 92 k) : gz_St h (uF (uI (uI (uF h (3 + r) f) 9 r (nI n)) 91 r (nI n)) 92 g) := by
  obtain ⟨H, F, Rw, Tx, Sc⟩ := I
  have off : ∀ a k, (a < 3 ∨ 9 < a) → a ≠ 91 → a ≠ 92 → (uF (uI (uI (uF h (3 + r) f) 9 r (nI n)) 91 r (nI n)) 92 g).2.1 a k = h.2.1 a k := fun a k h1 h2 h3 => by rw [uF_I, if_neg h3, uI_I, if_neg (by omega), uI_I, if_neg (by omega), uF_I, if_neg (by omega)]
  refine ⟨⟨H.of rfl rfl, F.cg (fun a k ha => off a k (by omega) (by omega) (by omega)), ?_, Tx.cg (fun a k ha => off a k (by omega) (by omega) (by omega)), Sc.cg (fun a k ha => off a k (by omega) (by omega) (by omega)) rfl⟩, rfl, fun a k ha => by unfold gz_ff at ha; exact off a k (by omega) (by omega) (by omega)⟩
  intro r' hr'
  obtain ⟨t1, t2, t3⟩ := Rw r' hr'
  have r9 : (uF (uI (uI (uF h (3 + r) f) 9 r (nI n)) 91 r (nI n)) 92 g).2.1 9 r' = if r' = r then nI n else h.2.1 9 r' := by
    rw [uF_I, if_neg (by omega), uI_I, if_neg (by omega), uI_I]
    by_cases e : r' = r
    · rw [if_pos ⟨rfl, e⟩, if_pos e]
    · rw [if_neg (fun q => e q.2), if_neg e, uF_I, if_neg (by omega)]
  have r91 : (uF (uI (uI (uF h (3 + r) f) 9 r (nI n)) 91 r (nI n)) 92 g).2.1 91 r' = if r' = r then nI n else h.2.1 91 r' := by
    rw [uF_I, if_neg (by omega), uI_I]
    by_cases e : r' = r
    · rw [if_pos ⟨rfl, e⟩, if_pos e]
    · rw [if_neg (fun q => e q.2), if_neg e, uI_I, if_neg (by omega), uF_I, if_neg (by omega)]
  rw [r9, r91]
  refine ⟨?_, ?_, fun k hk => ?_⟩
  · by_cases e : r' = r
    · rw [if_pos e, if_pos e]
    · rw [if_neg e, if_neg e]; exact t1
  · by_cases e : r' = r
    · rw [if_pos e]; exact Or.inr ⟨n, hn, rfl⟩
    · rw [if_neg e]; exact t2
  · rw [uF_I, if_neg (by omega), uI_I, if_neg (by omega), uI_I, if_neg (by omega), uF_I, uF_I, if_pos rfl, hg]
    by_cases e : r' = r
    · subst e
      rw [if_pos rfl, if_pos (by omega), hf k hk]
    · rw [if_neg (by omega), if_neg (by omega)]
      exact t3 k hk
theorem st_row {h : gz_H} (I : gz_In h) (x n : Int32) : gz_ag (fX8_row 0 x n) (fX9_row 85 x n) h (gz_St h) := by
  have I0 := I
  obtain ⟨H, F, Rw, Tx, Sc⟩ := I
  have S := H.rows F
  have x1 : ∀ (y : Int32) (h' : gz_H), fX8_layOut 0 1 x n 0 h = some (y, h') → fX8_row 0 x n h = some (y, h') := by
    intro y h' e
    unfold fX8_row fX8_row_0
    rw [ck_t (H.ck rfl), H.rf 0 0 1 (by decide), br_s, e, b2_s]
  rcases p_cases x 6 (by decide) with hx | ⟨r, hr, rfl⟩
  · refine st_sameE I0 (v := -1) (X := fX8_row 0 x n) (M := fX9_row 85 x n) (x1 _ _ (x_lo_out H S hx)) ?_
    unfold fX9_row fX9_row_0
    rw [p_isRow_out hx, b2_s, if_pos rfl]
  · rcases Int.lt_or_le n.toInt 0 with hn | hn
    · refine st_findE I0 (f := 5) (by decide) (X := fX8_row 0 (nI r) n) (M := fX9_row 85 (nI r) n) (x1 _ _ (x_lo_neg H S hr hn)) ?_
      have H1 := gz_xf_La (f := 5) H
      unfold fX9_row fX9_row_0
      rw [p_isRow_in hr, b2_s, if_neg (by decide), if_pos (by rw [show (40 : Int32) = nI 40 from rfl, t_le (by decide)]; omega), if_neg (by rw [t_ge0]; omega), ck_t (H1.ck rfl), show (5 : Int32) = nI 5 from rfl, p_find H1 (by decide), b2_s]
    · rcases Int.lt_or_le 40 n.toInt with hn2 | hn2
      · refine st_sameE I0 (v := -1) (X := fX8_row 0 (nI r) n) (M := fX9_row 85 (nI r) n) (x1 _ _ (x_lo_big H S hr hn2)) ?_
        unfold fX9_row fX9_row_0
        rw [p_isRow_in hr, b2_s, if_neg (by decide), if_neg (by rw [show (40 : Int32) = nI 40 from rfl, t_le (by decide)]; omega)]
      · obtain ⟨j, hj, rfl⟩ : ∃ j : Nat, j < 41 ∧ n = nI j := by
          rcases p_cases n 41 (by decide) with q | q
          · have := p_out_toInt (by decide) q; omega
          · exact q
        have H1 : gz_La (uI (uF h (3 + r) (fun i => if i < 40 then 0 else h.2.1 (3 + r) i)) 9 r (nI j)) := H.of rfl rfl
        refine ⟨nI j, _, _, x1 _ _ (x_lo_ok S hr (by omega) 0), H.1, ?_, rw_new I0 hr (show j ≤ 40 by omega) (fun i => if i < 40 then 0 else h.2.1 (3 + r) i) (fun k => if 40 * r ≤ k ∧ k < 40 * r + 40 then 0 else h.2.1 92 k) (fun k hk => if_pos hk) (fun k => rfl)⟩
        unfold fX9_row fX9_row_0
        rw [p_isRow_in hr, b2_s, if_neg (by decide), if_pos (show nI j ≤ (40 : Int32) from nI_le (b := 40) (by omega) (by decide)), if_pos (nI_pos' (by omega)), ck_t (H1.ck rfl), m_mkRow H1 hr, b2_s]
        refine congrArg some (congrArg (Prod.mk _) (uF_cg fun k => ?_))
        have o : ∀ f, (uI (uF h (3 + r) f) 9 r (nI j)).2.1 92 k = h.2.1 92 k := fun f => by rw [uI_I, if_neg (by omega), uF_I, if_neg (by omega)]
        rw [o]
theorem op_row {h : gz_H} (I : gz_Iv h) (x1 x2 : Int32) : gz_ag (fX8_row 0 x1 x2) (fX9_row 85 x1 x2) h gz_Iv := ag_iv I (st_row I.1 x1 x2)
end
section
theorem m_tx34 {t : Nat} (ht : t < 4) (x : Int32) : ∀ (m i : Nat) (h : gz_H), i ≤ 80 → 80 < i + m → gz_La h → fX9_text_34 m 85 (nI t) x (nI i) h = some (x, uF h 94 (fun k => if 80 * t + i ≤ k ∧ k < 80 * t + 80 then 32 else h.2.1 94 k)) := by
  intro m
  induction m with
  | zero => intro i h h1 h2; omega
  | succ m ih =>
    intro i h h1 h2 H
    rw [fX9_text_34]
    by_cases e : i = 80
    · subst e
      rw [if_pos (by decide)]
      refine congrArg some (congrArg (Prod.mk x) ?_)
      refine (uF_self (h := h) (a := 94)).symm.trans (uF_cg fun k => ?_)
      rw [if_neg (by omega)]
    · have H1 : gz_La (uI h 94 (80 * t + i) 32) := H.of rfl rfl
      rw [if_neg (show ¬ (80 : Int32) ≤ nI i from nI_ge (a := i) (b := 80) (by omega) (by decide)), ck_t (H.ck rfl), H.rf 85 10 94 (by decide), br_s, show (80 : Int32) = nI 80 from rfl, n_mul, ck_t (inb_nI (k := 10) (n := 320) (H.sh rfl) (by omega) (by decide)), nI_clamp (by omega), lt_d, nI_1, ih (i + 1) _ (by omega) (by omega) H1]
      refine congrArg some (congrArg (Prod.mk x) ?_)
      rw [uF_uI]
      refine uF_cg fun k => ?_
      rw [uI_I]
      by_cases hk : k = 80 * t + i
      · rw [if_neg (by omega), if_pos ⟨rfl, hk⟩, if_pos (by omega)]
      · have hne : ¬ ((94 : Nat) = 94 ∧ k = 80 * t + i) := fun z => hk z.2
        rw [if_neg hne]
        by_cases h9 : 80 * t + (i + 1) ≤ k ∧ k < 80 * t + 80
        · rw [if_pos h9, if_pos (by omega)]
        · rw [if_neg h9, if_neg (by omega)]
theorem tx_new {h : gz_H} (I : gz_In h) {r n : Nat} (hr : r < 4) (hn : n ≤ 80) (f g : Nat → Int32) (hf : ∀ k, k < 80 → f k = 32) (hg : ∀ k, g k = if 80 * r ≤ k ∧ k < 80 * r + 80 then 32 else h.2.1 94 k) : gz_St h (uF (uI (uI (uF h (12 + r) f) 16 r (nI n)) 93 r (nI n)) 94 g) := by
  obtain ⟨H, F, Rw, Tx, Sc⟩ := I
  have off : ∀ a k, (a < 12 ∨ 16 < a) → a ≠ 93 → a ≠ 94 → (uF (uI (uI (uF h (12 + r) f) 16 r (nI n)) 93 r (nI n)) 94 g).2.1 a k = h.2.1 a k := fun a k h1 h2 h3 => by rw [uF_I, if_neg h3, uI_I, if_neg (by omega), uI_I, if_neg (by omega), uF_I, if_neg (by omega)]
  refine ⟨⟨H.of rfl rfl, F.cg (fun a k ha => off a k (by omega) (by omega) (by omega)), Rw.cg (fun a k ha => off a k (by omega) (by omega) (by omega)), ?_, Sc.cg (fun a k ha => off a k (by omega) (by omega) (by omega)) rfl⟩, rfl, fun a k ha => by unfold gz_ff at ha; exact off a k (by omega) (by omega) (by omega)⟩
  intro r' hr'
  obtain ⟨t1, t2, t3⟩ := Tx r' hr'
  have r9 : (uF (uI (uI (uF h (12 + r) f) 16 r (nI n)) 93 r (nI n)) 94 g).2.1 16 r' = if r' = r then nI n else h.2.1 16 r' := by
    rw [uF_I, if_neg (by omega), uI_I, if_neg (by omega), uI_I]
    by_cases e : r' = r
    · rw [if_pos ⟨rfl, e⟩, if_pos e]
    · rw [if_neg (fun q => e q.2), if_neg e, uF_I, if_neg (by omega)]
  have r91 : (uF (uI (uI (uF h (12 + r) f) 16 r (nI n)) 93 r (nI n)) 94 g).2.1 93 r' = if r' = r then nI n else h.2.1 93 r' := by
    rw [uF_I, if_neg (by omega), uI_I]
    by_cases e : r' = r
    · rw [if_pos ⟨rfl, e⟩, if_pos e]
    · rw [if_neg (fun q => e q.2), if_neg e, uI_I, if_neg (by omega), uF_I, if_neg (by omega)]
  rw [r9, r91]
  refine ⟨?_, ?_, fun k hk => ?_⟩
  · by_cases e : r' = r
    · rw [if_pos e, if_pos e]
    · rw [if_neg e, if_neg e]; exact t1
  · by_cases e : r' = r
    · rw [if_pos e]; exact Or.inr ⟨n, hn, rfl⟩
    · rw [if_neg e]; exact t2
  · rw [uF_I, if_neg (by omega), uI_I, if_neg (by omega), uI_I, if_neg (by omega), uF_I, uF_I, if_pos rfl, hg]
    by_cases e : r' = r
    · subst e
      rw [if_pos rfl, if_pos (by omega), hf k hk]
    · rw [if_neg (by omega), if_neg (by omega)]
      exact t3 k hk
theorem st_text {h : gz_H} (I : gz_In h) (x n : Int32) : gz_ag (fX8_text 0 x n) (fX9_text 85 x n) h (gz_St h) := by
  have I0 := I
  obtain ⟨H, F, Rw, Tx, Sc⟩ := I
  have S := H.texts F
  have x1 : ∀ (y : Int32) (h' : gz_H), fX8_layOut 0 10 x n 32 h = some (y, h') → fX8_text 0 x n h = some (y, h') := by
    intro y h' e
    unfold fX8_text fX8_text_0
    rw [ck_t (H.ck rfl), H.rf 0 1 10 (by decide), br_s, e, b2_s]
  rcases p_cases x 4 (by decide) with hx | ⟨r, hr, rfl⟩
  · refine st_sameE I0 (v := -1) (X := fX8_text 0 x n) (M := fX9_text 85 x n) (x1 _ _ (x_lo_out H S hx)) ?_
    unfold fX9_text fX9_text_0
    rw [p_isText_out hx, b2_s, if_pos rfl]
  · rcases Int.lt_or_le n.toInt 0 with hn | hn
    · refine st_findE I0 (f := 5) (by decide) (X := fX8_text 0 (nI r) n) (M := fX9_text 85 (nI r) n) (x1 _ _ (x_lo_neg H S hr hn)) ?_
      have H1 := gz_xf_La (f := 5) H
      unfold fX9_text fX9_text_0
      rw [p_isText_in hr, b2_s, if_neg (by decide), if_pos (by rw [show (80 : Int32) = nI 80 from rfl, t_le (by decide)]; omega), if_neg (by rw [t_ge0]; omega), ck_t (H1.ck rfl), show (5 : Int32) = nI 5 from rfl, p_find H1 (by decide), b2_s]
    · rcases Int.lt_or_le 80 n.toInt with hn2 | hn2
      · refine st_sameE I0 (v := -1) (X := fX8_text 0 (nI r) n) (M := fX9_text 85 (nI r) n) (x1 _ _ (x_lo_big H S hr hn2)) ?_
        unfold fX9_text fX9_text_0
        rw [p_isText_in hr, b2_s, if_neg (by decide), if_neg (by rw [show (80 : Int32) = nI 80 from rfl, t_le (by decide)]; omega)]
      · obtain ⟨j, hj, rfl⟩ : ∃ j : Nat, j < 81 ∧ n = nI j := by
          rcases p_cases n 81 (by decide) with q | q
          · have := p_out_toInt (by decide) q; omega
          · exact q
        have H1 : gz_La (uI (uF h (12 + r) (fun i => if i < 80 then 32 else h.2.1 (12 + r) i)) 16 r (nI j)) := H.of rfl rfl
        have H2 : gz_La (uI (uI (uF h (12 + r) (fun i => if i < 80 then 32 else h.2.1 (12 + r) i)) 16 r (nI j)) 93 r (nI j)) := H.of rfl rfl
        refine ⟨nI j, _, _, x1 _ _ (x_lo_ok S hr (by omega) 32), H.1, ?_, tx_new I0 hr (show j ≤ 80 by omega) (fun i => if i < 80 then 32 else h.2.1 (12 + r) i) (fun k => if 80 * r ≤ k ∧ k < 80 * r + 80 then 32 else h.2.1 94 k) (fun k hk => if_pos hk) (fun k => rfl)⟩
        unfold fX9_text fX9_text_0
        rw [p_isText_in hr, b2_s, if_neg (by decide), if_pos (show nI j ≤ (80 : Int32) from nI_le (b := 80) (by omega) (by decide)), if_pos (nI_pos' (by omega)), ck_t (H1.ck rfl), H1.rf 85 9 93 (by decide), br_s, ck_t (inb_nI (k := 10) (n := 4) (H1.sh rfl) hr (by decide)), nI_clamp (by omega), lt_d, show (0 : Int32) = nI 0 from rfl, m_tx34 hr (nI j) gz_fu 0 _ (by omega) (by show 80 < 0 + 100000; omega) H2]
        refine congrArg some (congrArg (Prod.mk _) (uF_cg fun k => ?_))
        have o : ∀ f, (uI (uI (uF h (12 + r) f) 16 r (nI j)) 93 r (nI j)).2.1 94 k = h.2.1 94 k := fun f => by rw [uI_I, if_neg (by omega), uI_I, if_neg (by omega), uF_I, if_neg (by omega)]
        rw [o]
        rfl
theorem op_text {h : gz_H} (I : gz_Iv h) (x1 x2 : Int32) : gz_ag (fX8_text 0 x1 x2) (fX9_text 85 x1 x2) h gz_Iv := ag_iv I (st_text I.1 x1 x2)
theorem tx_put {h : gz_H} (I : gz_In h) {r j : Nat} (hr : r < 4) (hj : j < 80) (v : Int32) : gz_St h (uI (uI h (12 + r) j v) 94 (80 * r + j) v) := by
  obtain ⟨H, F, Rw, Tx, Sc⟩ := I
  have off : ∀ a k, (a < 12 ∨ 15 < a) → a ≠ 94 → (uI (uI h (12 + r) j v) 94 (80 * r + j) v).2.1 a k = h.2.1 a k := fun a k h1 h2 => by rw [uI_I, if_neg (by omega), uI_I, if_neg (by omega)]
  refine ⟨⟨H.of rfl rfl, F.cg (fun a k ha => off a k (by omega) (by omega)), Rw.cg (fun a k ha => off a k (by omega) (by omega)), ?_, Sc.cg (fun a k ha => off a k (by omega) (by omega)) rfl⟩, rfl, fun a k ha => by unfold gz_ff at ha; exact off a k (by omega) (by omega)⟩
  intro r' hr'
  obtain ⟨t1, t2, t3⟩ := Tx r' hr'
  rw [off 16 r' (by omega) (by omega), off 93 r' (by omega) (by omega)]
  refine ⟨t1, t2, fun k hk => ?_⟩
  have := t3 k hk
  by_cases e : r' = r ∧ k = j
  · obtain ⟨rfl, rfl⟩ := e
    rw [uI_I, if_neg (by omega), uI_I, if_pos ⟨rfl, rfl⟩, uI_I, if_pos ⟨rfl, rfl⟩]
  · rw [uI_I, if_neg (by omega), uI_I, if_neg (by omega), uI_I, if_neg (by omega), uI_I, if_neg (by omega)]
    exact this
theorem st_put {h : gz_H} (I : gz_In h) (x i v : Int32) : gz_ag (fX8_put 0 x i v) (fX9_put 85 x i v) h (gz_St h) := by
  have I0 := I
  obtain ⟨H, F, Rw, Tx, Sc⟩ := I
  have S := H.texts F
  have x1 : ∀ (y : Int32) (h' : gz_H), fX8_refusalOfCell 0 10 x i h = some (y, h') → ¬ y = 0 → fX8_put 0 x i v h = some (y, h') := by
    intro y h' e hy
    unfold fX8_put fX8_put_0
    rw [ck_t (H.ck rfl), H.rf 0 1 10 (by decide), br_s, e, b2_s, if_neg hy]
  rcases p_cases x 4 (by decide) with hx | ⟨r, hr, rfl⟩
  · refine st_sameE I0 (v := -1) (X := fX8_put 0 x i v) (M := fX9_put 85 x i v) (x1 _ _ (x_ref_out H S hx) (by decide)) ?_
    unfold fX9_put fX9_put_0
    rw [p_isText_out hx, b2_s, if_pos rfl]
  · obtain ⟨q1, q2, q3⟩ := Tx r hr
    have cl : (nI r).toNatClampNeg = r := nI_clamp (by omega)
    rcases q2 with e | ⟨n, hn, en⟩
    · refine st_findE I0 (f := 1) (by decide) (X := fX8_put 0 (nI r) i v) (M := fX9_put 85 (nI r) i v) (x1 _ _ (x_ref_no H S hr e i) (by decide)) ?_
      have H1 := gz_xf_La (f := 1) H
      have m93 : (gz_xf h 1).2.1 93 r = -1 := by rw [gz_xf_I 93 r (by decide) (by decide), ← q1]; exact e
      unfold fX9_put fX9_put_0
      rw [p_isText_in hr, b2_s, if_neg (by decide), ck_t (H1.ck rfl), H1.rf 85 9 93 (by decide), br_s, ck_t (inb_nI (k := 10) (n := 4) (H1.sh rfl) hr (by decide)), cl, m93, if_neg (by decide), show (1 : Int32) = nI 1 from rfl, p_find H1 (by decide), b2_s]
    · rcases p_cases i n (by omega) with hi | ⟨j, hj, rfl⟩
      · refine st_findE I0 (f := 2) (by decide) (X := fX8_put 0 (nI r) i v) (M := fX9_put 85 (nI r) i v) (x1 _ _ (x_ref_be H S hr (by omega) en hi) (by decide)) ?_
        have H1 := gz_xf_La (f := 2) H
        have m93 : (gz_xf h 2).2.1 93 r = nI n := by rw [gz_xf_I 93 r (by decide) (by decide), ← q1]; exact en
        unfold fX9_put fX9_put_0
        rw [p_isText_in hr, b2_s, if_neg (by decide), ck_t (H1.ck rfl), H1.rf 85 9 93 (by decide), br_s, ck_t (inb_nI (k := 10) (n := 4) (H1.sh rfl) hr (by decide)), cl, m93, if_pos (nI_pos' (by omega)), p_in0_out (by omega) hi, b2_s, if_pos rfl, ck_t (H1.ck rfl), show (2 : Int32) = nI 2 from rfl, p_find H1 (by decide), b2_s]
      · have cj : (nI j).toNatClampNeg = j := nI_clamp (by omega)
        have hsr := S.2.2.2.2.2.1 r hr
        refine ⟨h.2.1 (12 + r) j + 1000, uI h (12 + r) j v.toInt8.toInt32, uI (uI h (12 + r) j v.toInt8.toInt32) 94 (80 * r + j) v.toInt8.toInt32, ?_, H.1, ?_, tx_put I0 hr (by omega) _⟩
        · unfold fX8_put fX8_put_0
          rw [ck_t (H.ck rfl), H.rf 0 1 10 (by decide), br_s, x_ref_ok S hr (by omega) en hj, b2_s, if_pos rfl, ck_t (H.ck rfl), H.rf 0 1 10 (by decide), br_s, ck_t (H.ck rfl), H.rf 10 1 11 (by decide), br_s, ck_t (inb_nI (k := 13) (n := 4) (H.sh rfl) hr (by decide)), cl, hsr.1, br_s, ck_t (inb_nI hsr.2 (by omega) (by decide)), cj, lt_d]
        · have H1 : gz_La (uI h (12 + r) j v.toInt8.toInt32) := H.of rfl rfl
          have m93 : (uI h (12 + r) j v.toInt8.toInt32).2.1 93 r = nI n := by rw [uI_I, if_neg (by omega), ← q1]; exact en
          have m94 : (uI h (12 + r) j v.toInt8.toInt32).2.1 94 (80 * r + j) = h.2.1 (12 + r) j := by rw [uI_I, if_neg (by omega), q3 j (by omega)]
          unfold fX9_put fX9_put_0
          rw [p_isText_in hr, b2_s, if_neg (by decide), ck_t (H1.ck rfl), H1.rf 85 9 93 (by decide), br_s, ck_t (inb_nI (k := 10) (n := 4) (H1.sh rfl) hr (by decide)), cl, m93, if_pos (nI_pos' (by omega)), p_in0_in (by omega) hj, b2_s, if_neg (by decide), ck_t (H1.ck rfl), H1.rf 85 10 94 (by decide), br_s, show (80 : Int32) = nI 80 from rfl, n_mul, ck_t (inb_nI (k := 10) (n := 320) (H1.sh rfl) (by omega) (by decide)), nI_clamp (by omega), m94, lt_d, lt_d]
theorem op_put {h : gz_H} (I : gz_Iv h) (x1 x2 x3 : Int32) : gz_ag (fX8_put 0 x1 x2 x3) (fX9_put 85 x1 x2 x3) h gz_Iv := ag_iv I (st_put I.1 x1 x2 x3)
/-! mean -/
def l_sm (f : Nat → Int32) : Nat → Int64
  | 0 => 0
  | n + 1 => l_sm f n + (f n).toInt64
theorem x_mean61 {h : gz_H} (H : gz_La h) (F : gz_Fx h) {r n : Nat} (hr : r < 6) (h0 : 0 < n) (hn : n ≤ 40) : ∀ (m i : Nat), i ≤ n → n < i + m → fX8_mean_61 m 0 (nI r) (nI n) (l_sm (h.2.1 (3 + r)) i) (nI i) h = some (1, uI h 0 18 ((l_sm (h.2.1 (3 + r)) n / (nI n).toInt64).toInt32)) := by
  have hsr := (H.rows F).2.2.2.2.2.1 r hr
  intro m
  induction m with
  | zero => intro i h1 h2; omega
  | succ m ih =>
    intro i h1 h2
    rw [fX8_mean_61]
    by_cases e : i = n
    · subst e
      rw [if_pos (nI_le (Nat.le_refl _) (by omega)), ck_t, ck_t (H.ck rfl), lt_d]
      unfold gz_nzL
      refine decide_eq_true (fun z => ?_)
      have := congrArg Int64.toInt z
      rw [l_of, nI_toInt (by omega)] at this
      have e0 : (0 : Int64).toInt = 0 := rfl
      omega
    · rw [if_neg (nI_ge (by omega) (by omega)), ck_t (H.ck rfl), H.rf 0 0 1 (by decide), br_s, ck_t (H.ck rfl), H.rf 1 1 2 (by decide), br_s, ck_t (inb_nI (k := 13) (n := 6) (H.sh rfl) hr (by decide)), nI_clamp (by omega), hsr.1, br_s, ck_t (inb_nI hsr.2 (by omega) (by decide)), nI_clamp (by omega), nI_1]
      exact ih (i + 1) (by omega) (by omega)
theorem m_mean44 {h : gz_H} (H : gz_La h) {r n : Nat} (hr : r < 6) (h0 : 0 < n) (hn : n ≤ 40) (en : h.2.1 91 r = nI n) : ∀ (m i : Nat), i ≤ n → n < i + m → fX9_mean_44 m 85 (nI r) (l_sm (fun k => h.2.1 92 (40 * r + k)) i) (nI i) h = some (1, uI h 85 11 ((l_sm (fun k => h.2.1 92 (40 * r + k)) n / (nI n).toInt64).toInt32)) := by
  intro m
  induction m with
  | zero => intro i h1 h2; omega
  | succ m ih =>
    intro i h1 h2
    rw [fX9_mean_44]
    rw [ck_t (H.ck rfl), H.rf 85 7 91 (by decide), br_s, ck_t (inb_nI (k := 10) (n := 6) (H.sh rfl) hr (by decide)), nI_clamp (n := r) (by omega), en]
    by_cases e : i = n
    · subst e
      rw [if_pos (nI_le (Nat.le_refl _) (by omega)), ck_t, p_tell H, b2_s]
      unfold gz_nzL
      refine decide_eq_true (fun z => ?_)
      have := congrArg Int64.toInt z
      rw [l_of, nI_toInt (by omega)] at this
      have e0 : (0 : Int64).toInt = 0 := rfl
      omega
    · rw [if_neg (nI_ge (by omega) (by omega)), H.rf 85 8 92 (by decide), br_s, show (40 : Int32) = nI 40 from rfl, n_mul, ck_t (inb_nI (k := 10) (n := 240) (H.sh rfl) (by omega) (by decide)), nI_clamp (by omega), lt_d, nI_1]
      exact ih (i + 1) (by omega) (by omega)
theorem l_sm_cg {f g : Nat → Int32} : ∀ n, (∀ k, k < n → f k = g k) → l_sm f n = l_sm g n := by
  intro n
  induction n with
  | zero => intro _; rfl
  | succ n ih => intro e; show l_sm f n + _ = l_sm g n + _; rw [ih (fun k hk => e k (by omega)), e n (by omega)]
theorem st_mean {h : gz_H} (I : gz_In h) (x : Int32) : gz_ag (fX8_mean 0 x) (fX9_mean 85 x) h (gz_St h) := by
  have I0 := I
  obtain ⟨H, F, Rw, Tx, Sc⟩ := I
  have S := H.rows F
  rcases p_cases x 6 (by decide) with hx | ⟨r, hr, rfl⟩
  · refine st_sameE I0 (v := -1) (X := fX8_mean 0 x) (M := fX9_mean 85 x) ?_ ?_
    · unfold fX8_mean fX8_mean_0
      rw [ck_t (H.ck rfl), H.rf 0 0 1 (by decide), br_s, ck_t (H.ck rfl), p_knows_out S hx, b2_s, if_pos rfl]
    · unfold fX9_mean fX9_mean_0
      rw [p_isRow_out hx, b2_s, if_pos rfl]
  · obtain ⟨q1, q2, q3⟩ := Rw r hr
    have cl : (nI r).toNatClampNeg = r := nI_clamp (by omega)
    rcases q2 with e | ⟨n, hn, en⟩
    · refine st_findE I0 (f := 1) (by decide) (X := fX8_mean 0 (nI r)) (M := fX9_mean 85 (nI r)) ?_ ?_
      · unfold fX8_mean fX8_mean_0
        rw [ck_t (H.ck rfl), H.rf 0 0 1 (by decide), br_s, ck_t (H.ck rfl), p_knows_in S hr, b2_s, if_neg (by decide), ck_t (H.ck rfl), H.rf 0 0 1 (by decide), br_s, ck_t (H.ck rfl), p_has0 S hr e, b2_s, if_pos rfl, ck_t (H.ck rfl), H.rf 0 3 18 (by decide), br_s, ck_t (H.ck rfl), show (1 : Int32) = nI 1 from rfl, p_answer H (by decide), b2_s]
      · have H1 := gz_xf_La (f := 1) H
        have m91 : (gz_xf h 1).2.1 91 r = -1 := by rw [gz_xf_I 91 r (by decide) (by decide), ← q1]; exact e
        unfold fX9_mean fX9_mean_0
        rw [p_isRow_in hr, b2_s, if_neg (by decide), ck_t (H1.ck rfl), H1.rf 85 7 91 (by decide), br_s, ck_t (inb_nI (k := 10) (n := 6) (H1.sh rfl) hr (by decide)), cl, m91, if_neg (by decide), show (1 : Int32) = nI 1 from rfl, p_find H1 (by decide), b2_s]
    · have hne : ¬ h.2.1 9 r = -1 := by rw [en]; exact n_ne n (by omega)
      by_cases hz : n = 0
      · subst hz
        refine st_findE I0 (f := 4) (by decide) (X := fX8_mean 0 (nI r)) (M := fX9_mean 85 (nI r)) ?_ ?_
        · unfold fX8_mean fX8_mean_0
          rw [ck_t (H.ck rfl), H.rf 0 0 1 (by decide), br_s, ck_t (H.ck rfl), p_knows_in S hr, b2_s, if_neg (by decide), ck_t (H.ck rfl), H.rf 0 0 1 (by decide), br_s, ck_t (H.ck rfl), p_has1 S hr hne, b2_s, if_neg (by decide), ck_t (H.ck rfl), H.rf 0 0 1 (by decide), br_s, ck_t (H.ck rfl), H.rf 1 2 9 (by decide), br_s, ck_t (inb_nI (k := 10) (n := 6) (H.sh rfl) hr (by decide)), cl, en, if_pos (by decide), H.rf 0 3 18 (by decide), br_s, ck_t (H.ck rfl), show (4 : Int32) = nI 4 from rfl, p_answer H (by decide), b2_s]
        · have H1 := gz_xf_La (f := 4) H
          have m91 : (gz_xf h 4).2.1 91 r = 0 := by rw [gz_xf_I 91 r (by decide) (by decide), ← q1]; exact en
          unfold fX9_mean fX9_mean_0
          rw [p_isRow_in hr, b2_s, if_neg (by decide), ck_t (H1.ck rfl), H1.rf 85 7 91 (by decide), br_s, ck_t (inb_nI (k := 10) (n := 6) (H1.sh rfl) hr (by decide)), cl, m91, if_pos (by decide), if_pos rfl, show (4 : Int32) = nI 4 from rfl, p_find H1 (by decide), b2_s]
      · have hn0 : ¬ nI n = 0 := nI_ne0 (by omega) (by omega)
        generalize hv : (l_sm (h.2.1 (3 + r)) n / (nI n).toInt64).toInt32 = v
        have H1 : gz_La (uI h 0 18 v) := H.of rfl rfl
        refine ⟨1, uI h 0 18 v, uI (uI h 0 18 v) 85 11 v, ?_, H.1, ?_, st_ask I0 (gz_St.rf I0)⟩
        · unfold fX8_mean fX8_mean_0
          rw [ck_t (H.ck rfl), H.rf 0 0 1 (by decide), br_s, ck_t (H.ck rfl), p_knows_in S hr, b2_s, if_neg (by decide), ck_t (H.ck rfl), H.rf 0 0 1 (by decide), br_s, ck_t (H.ck rfl), p_has1 S hr hne, b2_s, if_neg (by decide), ck_t (H.ck rfl), H.rf 0 0 1 (by decide), br_s, ck_t (H.ck rfl), H.rf 1 2 9 (by decide), br_s, ck_t (inb_nI (k := 10) (n := 6) (H.sh rfl) hr (by decide)), cl, en, if_neg hn0]
          have := x_mean61 H F hr (show 0 < n by omega) hn gz_fu 0 (by omega) (by show n < 0 + 100000; omega)
          rw [hv] at this
          exact this
        · have m91 : (uI h 0 18 v).2.1 91 r = nI n := by rw [uI_I, if_neg (by omega), ← q1]; exact en
          unfold fX9_mean fX9_mean_0
          rw [p_isRow_in hr, b2_s, if_neg (by decide), ck_t (H1.ck rfl), H1.rf 85 7 91 (by decide), br_s, ck_t (inb_nI (k := 10) (n := 6) (H1.sh rfl) hr (by decide)), cl, m91, if_pos (nI_pos' (by omega)), if_neg hn0]
          have := m_mean44 H1 hr (show 0 < n by omega) hn m91 gz_fu 0 (by omega) (by show n < 0 + 100000; omega)
          rw [l_sm_cg (g := h.2.1 (3 + r)) n (fun k hk => by rw [uI_I, if_neg (by omega), q3 k (by omega)]), hv] at this
          exact this
theorem op_mean {h : gz_H} (I : gz_Iv h) (x1 : Int32) : gz_ag (fX8_mean 0 x1) (fX9_mean 85 x1) h gz_Iv := ag_iv I (st_mean I.1 x1)
end
section
/-! copy -/
theorem m_span {h : gz_H} (H : gz_La h) {k : Nat} (hk : k < 6) (i n : Int32) : fX9_isSpan 85 (nI k) i n h = some (if 0 ≤ i.toInt ∧ i.toInt + n.toInt ≤ (h.2.1 91 k).toInt then 1 else 0, h) := by
  unfold fX9_isSpan fX9_isSpan_0
  by_cases e : i < 0
  · rw [if_pos e, if_neg (by rw [Int32.lt_iff_toInt_lt] at e; simp at e; omega)]
  · rw [if_neg e, ck_t (H.ck rfl), H.rf 85 7 91 (by decide), br_s, ck_t (inb_nI (k := 10) (n := 6) (H.sh rfl) hk (by decide)), nI_clamp (by omega)]
    have hs : (i.toInt64 + n.toInt64).toInt = i.toInt + n.toInt := by
      have a1 := i.toInt_lt
      have a2 := i.le_toInt
      have b1 := n.toInt_lt
      have b2 := n.le_toInt
      rw [Int64.toInt_add, l_of, l_of, Int.bmod_eq_of_le] <;> omega
    have e0 : 0 ≤ i.toInt := by
      have := Int32.not_lt.mp e
      simpa [Int32.le_iff_toInt_le] using this
    by_cases e1 : (h.2.1 91 k).toInt64 < i.toInt64 + n.toInt64
    · rw [if_pos ((cmp_gt _ _).mpr e1), if_neg (by rw [Int64.lt_iff_toInt_lt, hs, l_of] at e1; omega)]
    · rw [if_neg (fun q => e1 ((cmp_gt _ _).mp q)), if_pos (by rw [Int64.lt_iff_toInt_lt, hs, l_of] at e1; omega)]
/-- the reference's items behind k steps forward, backward -/
def cpF (f : Nat → Int32) (s d k p : Nat) : Int32 := if d ≤ p ∧ p < d + k then f (s + (p - d)) else f p
def cpB (f : Nat → Int32) (s d n k p : Nat) : Int32 := if d + (n - k) ≤ p ∧ p < d + n then f (s + (p - d)) else f p
theorem m_cpF {h : gz_H} (H : gz_La h) {r i t j n : Nat} (hr : r < 6) (ht : t < 6) (hi : i + n ≤ 40) (hj : j + n ≤ 40) (hji : j ≤ i) : ∀ (m k : Nat), k ≤ n → n < k + m → fX9_copy_96 m 85 (nI r) (nI i) (nI t) (nI j) (nI n) 0 (nI k) (uF h 92 (cpF (h.2.1 92) (40 * r + i) (40 * t + j) k)) = some (1, uF h 92 (cpF (h.2.1 92) (40 * r + i) (40 * t + j) n)) := by
  intro m
  induction m with
  | zero => intro k h1 h2; omega
  | succ m ih =>
    intro k h1 h2
    have H1 : gz_La (uF h 92 (cpF (h.2.1 92) (40 * r + i) (40 * t + j) k)) := H.of rfl rfl
    rw [fX9_copy_96]
    by_cases e : k = n
    · subst e
      rw [if_pos (nI_le (Nat.le_refl _) (by omega))]
    · rw [if_neg (nI_ge (by omega) (by omega)), if_pos rfl]
      unfold fX9_copy_120
      rw [ck_t (H1.ck rfl), H1.rf 85 8 92 (by decide), br_s, show (40 : Int32) = nI 40 from rfl, n_mul, n_mul, nI_add, nI_add, ck_t (inb_nI (k := 10) (n := 240) (H1.sh rfl) (by omega) (by decide)), ck_t (inb_nI (k := 10) (n := 240) (H1.sh rfl) (by omega) (by decide)), nI_clamp (by omega), nI_clamp (by omega), lt_d, uF_I, if_pos rfl, nI_1]
      have e2 : uI (uF h 92 (cpF (h.2.1 92) (40 * r + i) (40 * t + j) k)) 92 (40 * t + j + k) (cpF (h.2.1 92) (40 * r + i) (40 * t + j) k (40 * r + i + k)) = uF h 92 (cpF (h.2.1 92) (40 * r + i) (40 * t + j) (k + 1)) := by
        rw [uI_eq, uF_uF]
        refine uF_cg fun p => ?_
        show (if p = 40 * t + j + k then _ else (uF h 92 _).2.1 92 p) = _
        rw [uF_I, if_pos rfl]
        unfold cpF
        by_cases e3 : p = 40 * t + j + k
        · rw [if_pos e3, if_neg (by omega), if_pos (by omega)]
          exact congrArg (h.2.1 92) (by omega)
        · rw [if_neg e3]
          by_cases e4 : 40 * t + j ≤ p ∧ p < 40 * t + j + k
          · rw [if_pos e4, if_pos (by omega)]
          · rw [if_neg e4, if_neg (by omega)]
      rw [e2]
      exact ih (k + 1) (by omega) (by omega)
theorem m_cpB {h : gz_H} (H : gz_La h) {r i t j n : Nat} (hr : r < 6) (ht : t < 6) (hi : i + n ≤ 40) (hj : j + n ≤ 40) (hji : i < j) : ∀ (m k : Nat), k ≤ n → n < k + m → fX9_copy_96 m 85 (nI r) (nI i) (nI t) (nI j) (nI n) 1 (nI k) (uF h 92 (cpB (h.2.1 92) (40 * r + i) (40 * t + j) n k)) = some (1, uF h 92 (cpB (h.2.1 92) (40 * r + i) (40 * t + j) n n)) := by
  intro m
  induction m with
  | zero => intro k h1 h2; omega
  | succ m ih =>
    intro k h1 h2
    have H1 : gz_La (uF h 92 (cpB (h.2.1 92) (40 * r + i) (40 * t + j) n k)) := H.of rfl rfl
    rw [fX9_copy_96]
    by_cases e : k = n
    · subst e
      rw [if_pos (nI_le (Nat.le_refl _) (by omega))]
    · rw [if_neg (nI_ge (by omega) (by omega)), if_neg (by decide)]
      have e5 : nI n - (1 : Int32) - nI k = nI (n - 1 - k) := by
        rw [show (1 : Int32) = nI 1 from rfl, pk_sub (by omega), pk_sub (by omega)]
      unfold fX9_copy_120
      rw [e5, ck_t (H1.ck rfl), H1.rf 85 8 92 (by decide), br_s, show (40 : Int32) = nI 40 from rfl, n_mul, n_mul, nI_add, nI_add, ck_t (inb_nI (k := 10) (n := 240) (H1.sh rfl) (by omega) (by decide)), ck_t (inb_nI (k := 10) (n := 240) (H1.sh rfl) (by omega) (by decide)), nI_clamp (by omega), nI_clamp (by omega), lt_d, uF_I, if_pos rfl, nI_1]
      have e2 : uI (uF h 92 (cpB (h.2.1 92) (40 * r + i) (40 * t + j) n k)) 92 (40 * t + j + (n - 1 - k)) (cpB (h.2.1 92) (40 * r + i) (40 * t + j) n k (40 * r + i + (n - 1 - k))) = uF h 92 (cpB (h.2.1 92) (40 * r + i) (40 * t + j) n (k + 1)) := by
        rw [uI_eq, uF_uF]
        refine uF_cg fun p => ?_
        show (if p = 40 * t + j + (n - 1 - k) then _ else (uF h 92 _).2.1 92 p) = _
        rw [uF_I, if_pos rfl]
        unfold cpB
        by_cases e3 : p = 40 * t + j + (n - 1 - k)
        · rw [if_pos e3, if_neg (by omega), if_pos (by omega)]
          exact congrArg (h.2.1 92) (by omega)
        · rw [if_neg e3]
          by_cases e4 : 40 * t + j + (n - k) ≤ p ∧ p < 40 * t + j + n
          · rw [if_pos e4, if_pos (by omega)]
          · rw [if_neg e4, if_neg (by omega)]
      rw [e2]
      exact ih (k + 1) (by omega) (by omega)
theorem rw_cp {h : gz_H} (I : gz_In h) {r i t j n : Nat} (hr : r < 6) (ht : t < 6) (hi : i + n ≤ 40) (hj : j + n ≤ 40) (f g : Nat → Int32) (hf : ∀ k, k < 40 → f k = if j ≤ k ∧ k < j + n then h.2.1 (3 + r) (i + (k - j)) else h.2.1 (3 + t) k)
    (hg : ∀ p, g p = if 40 * t + j ≤ p ∧ p < 40 * t + j + n then h.2.1 92 (40 * r + i + (p - (40 * t + j))) else h.2.1 92 p) : gz_St h (uF (uF h (3 + t) f) 92 g) := by
  obtain ⟨H, F, Rw, Tx, Sc⟩ := I
  have off : ∀ a k, (a < 3 ∨ 8 < a) → a ≠ 92 → (uF (uF h (3 + t) f) 92 g).2.1 a k = h.2.1 a k := fun a k h1 h2 => by rw [uF_I, if_neg h2, uF_I, if_neg (by omega)]
  refine ⟨⟨H.of rfl rfl, F.cg (fun a k ha => off a k (by omega) (by omega)), ?_, Tx.cg (fun a k ha => off a k (by omega) (by omega)), Sc.cg (fun a k ha => off a k (by omega) (by omega)) rfl⟩, rfl, fun a k ha => by unfold gz_ff at ha; exact off a k (by omega) (by omega)⟩
  intro r' hr'
  obtain ⟨t1, t2, t3⟩ := Rw r' hr'
  rw [off 9 r' (by omega) (by omega), off 91 r' (by omega) (by omega)]
  refine ⟨t1, t2, fun k hk => ?_⟩
  rw [uF_I, if_neg (by omega), uF_I, uF_I, if_pos rfl, hg]
  by_cases e : r' = t
  · subst e
    rw [if_pos rfl, hf k hk]
    by_cases e1 : j ≤ k ∧ k < j + n
    · rw [if_pos e1, if_pos (by omega), (Rw r hr).2.2 (i + (k - j)) (by omega)]
      exact congrArg (h.2.1 92) (by omega)
    · rw [if_neg e1, if_neg (by omega)]
      exact t3 k hk
  · rw [if_neg (by omega), if_neg (by omega)]
    exact t3 k hk
theorem cpOk_t {h : gz_H} {a b n0 n1 i j n : Nat} (e0 : h.1[a]? = some (10, n0)) (e1 : h.1[b]? = some (10, n1)) (h0 : i + n ≤ n0) (h1 : j + n ≤ n1) (hb : n0 < 2 ^ 31) (hc : n1 < 2 ^ 31) : gz_cpOk h a b (nI i) (nI j) (nI n) = true := by
  unfold gz_cpOk
  rw [e0, e1]
  simp only [beq_self_eq_true, Bool.true_and, Bool.and_eq_true, Bool.not_eq_true', decide_eq_false_iff_not, decide_eq_true_eq]
  rw [nI_clamp (by omega), nI_clamp (by omega), nI_clamp (by omega)]
  exact ⟨⟨⟨⟨nI_pos (by omega), nI_pos (by omega)⟩, nI_pos (by omega)⟩, h0⟩, h1⟩
theorem n_of0 {x : Int32} {m : Nat} (h0 : 0 ≤ x.toInt) (h1 : x.toInt ≤ m) (hm : m < 2 ^ 30) : ∃ j : Nat, j ≤ m ∧ x = nI j := by
  rcases p_cases x (m + 1) (by omega) with q | ⟨j, hj, e⟩
  · have := p_out_toInt (by omega) q
    omega
  · exact ⟨j, by omega, e⟩
theorem st_copy {h : gz_H} (I : gz_In h) (x i y j n : Int32) : gz_ag (fX8_copy 0 x i y j n) (fX9_copy 85 x i y j n) h (gz_St h) := by
  have I0 := I
  obtain ⟨H, F, Rw, Tx, Sc⟩ := I
  have S := H.rows F
  have x60 : fX8_copy_60 0 h = some (-3, gz_xf h 1) := by
    unfold fX8_copy_60
    rw [ck_t (H.ck rfl), H.rf 0 3 18 (by decide), br_s, ck_t (H.ck rfl), show (1 : Int32) = nI 1 from rfl, p_answer H (by decide), b2_s]
  have x98 : fX8_copy_98 0 h = some (-3, gz_xf h 2) := by
    unfold fX8_copy_98
    rw [ck_t (H.ck rfl), H.rf 0 3 18 (by decide), br_s, ck_t (H.ck rfl), show (2 : Int32) = nI 2 from rfl, p_answer H (by decide), b2_s]
  have m45 : fX9_copy_45 85 (gz_xf h 1) = some (-3, gz_mf (gz_xf h 1) 1) := by
    have H1 := gz_xf_La (f := 1) H
    unfold fX9_copy_45
    rw [ck_t (H1.ck rfl), show (1 : Int32) = nI 1 from rfl, p_find H1 (by decide), b2_s]
  have m74 : fX9_copy_74 85 (gz_xf h 2) = some (-3, gz_mf (gz_xf h 2) 2) := by
    have H1 := gz_xf_La (f := 2) H
    unfold fX9_copy_74
    rw [ck_t (H1.ck rfl), show (2 : Int32) = nI 2 from rfl, p_find H1 (by decide), b2_s]
  rcases p_cases x 6 (by decide) with hx | ⟨r, hr, rfl⟩
  · refine st_sameE I0 (v := -1) (X := fX8_copy 0 x i y j n) (M := fX9_copy 85 x i y j n) ?_ ?_
    · unfold fX8_copy fX8_copy_0
      rw [ck_t (H.ck rfl), H.rf 0 0 1 (by decide), br_s, ck_t (H.ck rfl), p_knows_out S hx, b2_s, if_pos rfl]
    · unfold fX9_copy fX9_copy_0
      rw [p_isRow_out hx, b2_s, if_pos rfl]
  · rcases p_cases y 6 (by decide) with hy | ⟨t, ht, rfl⟩
    · refine st_sameE I0 (v := -1) (X := fX8_copy 0 (nI r) i y j n) (M := fX9_copy 85 (nI r) i y j n) ?_ ?_
      · unfold fX8_copy fX8_copy_0
        rw [ck_t (H.ck rfl), H.rf 0 0 1 (by decide), br_s, ck_t (H.ck rfl), p_knows_in S hr, b2_s, if_neg (by decide), ck_t (H.ck rfl), H.rf 0 0 1 (by decide), br_s, ck_t (H.ck rfl), p_knows_out S hy, b2_s, if_pos rfl]
      · unfold fX9_copy fX9_copy_0
        rw [p_isRow_in hr, b2_s, if_neg (by decide), p_isRow_out hy, b2_s, if_pos rfl]
    · have cr : (nI r).toNatClampNeg = r := nI_clamp (by omega)
      have ct : (nI t).toNatClampNeg = t := nI_clamp (by omega)
      obtain ⟨q1, q2, q3⟩ := Rw r hr
      obtain ⟨u1, u2, u3⟩ := Rw t ht
      rcases Int.lt_or_le n.toInt 0 with hn | hn
      · refine st_findE I0 (f := 5) (by decide) (X := fX8_copy 0 (nI r) i (nI t) j n) (M := fX9_copy 85 (nI r) i (nI t) j n) ?_ ?_
        · unfold fX8_copy fX8_copy_0
          rw [ck_t (H.ck rfl), H.rf 0 0 1 (by decide), br_s, ck_t (H.ck rfl), p_knows_in S hr, b2_s, if_neg (by decide), ck_t (H.ck rfl), H.rf 0 0 1 (by decide), br_s, ck_t (H.ck rfl), p_knows_in S ht, b2_s, if_neg (by decide), if_neg (by rw [t_ge0]; omega), ck_t (H.ck rfl), H.rf 0 3 18 (by decide), br_s, ck_t (H.ck rfl), show (5 : Int32) = nI 5 from rfl, p_answer H (by decide), b2_s]
        · have H1 := gz_xf_La (f := 5) H
          unfold fX9_copy fX9_copy_0
          rw [p_isRow_in hr, b2_s, if_neg (by decide), p_isRow_in ht, b2_s, if_neg (by decide), if_neg (by rw [t_ge0]; omega), ck_t (H1.ck rfl), show (5 : Int32) = nI 5 from rfl, p_find H1 (by decide), b2_s]
      · have hn' : 0 ≤ n := t_ge0.mpr hn
        rcases q2 with e | ⟨nr, hnr, enr⟩
        · refine st_findE I0 (f := 1) (by decide) (X := fX8_copy 0 (nI r) i (nI t) j n) (M := fX9_copy 85 (nI r) i (nI t) j n) ?_ ?_
          · unfold fX8_copy fX8_copy_0
            rw [ck_t (H.ck rfl), H.rf 0 0 1 (by decide), br_s, ck_t (H.ck rfl), p_knows_in S hr, b2_s, if_neg (by decide), ck_t (H.ck rfl), H.rf 0 0 1 (by decide), br_s, ck_t (H.ck rfl), p_knows_in S ht, b2_s, if_neg (by decide), if_pos hn', ck_t (H.ck rfl), H.rf 0 0 1 (by decide), br_s, ck_t (H.ck rfl), p_has0 S hr e, b2_s, if_pos rfl, x60]
          · have H1 := gz_xf_La (f := 1) H
            have m91 : (gz_xf h 1).2.1 91 r = -1 := by rw [gz_xf_I 91 r (by decide) (by decide), ← q1]; exact e
            unfold fX9_copy fX9_copy_0
            rw [p_isRow_in hr, b2_s, if_neg (by decide), p_isRow_in ht, b2_s, if_neg (by decide), if_pos hn', ck_t (H1.ck rfl), H1.rf 85 7 91 (by decide), br_s, ck_t (inb_nI (k := 10) (n := 6) (H1.sh rfl) hr (by decide)), cr, m91, if_pos (by decide), m45]
        · have hner : ¬ h.2.1 9 r = -1 := by rw [enr]; exact n_ne nr (by omega)
          rcases u2 with e | ⟨nt, hnt, ent⟩
          · refine st_findE I0 (f := 1) (by decide) (X := fX8_copy 0 (nI r) i (nI t) j n) (M := fX9_copy 85 (nI r) i (nI t) j n) ?_ ?_
            · unfold fX8_copy fX8_copy_0
              rw [ck_t (H.ck rfl), H.rf 0 0 1 (by decide), br_s, ck_t (H.ck rfl), p_knows_in S hr, b2_s, if_neg (by decide), ck_t (H.ck rfl), H.rf 0 0 1 (by decide), br_s, ck_t (H.ck rfl), p_knows_in S ht, b2_s, if_neg (by decide), if_pos hn', ck_t (H.ck rfl), H.rf 0 0 1 (by decide), br_s, ck_t (H.ck rfl), p_has1 S hr hner, b2_s, if_neg (by decide), ck_t (H.ck rfl), H.rf 0 0 1 (by decide), br_s, ck_t (H.ck rfl), p_has0 S ht e, b2_s, if_pos rfl, x60]
            · have H1 := gz_xf_La (f := 1) H
              have m91 : (gz_xf h 1).2.1 91 r = nI nr := by rw [gz_xf_I 91 r (by decide) (by decide), ← q1]; exact enr
              have m91t : (gz_xf h 1).2.1 91 t = -1 := by rw [gz_xf_I 91 t (by decide) (by decide), ← u1]; exact e
              unfold fX9_copy fX9_copy_0
              rw [p_isRow_in hr, b2_s, if_neg (by decide), p_isRow_in ht, b2_s, if_neg (by decide), if_pos hn', ck_t (H1.ck rfl), H1.rf 85 7 91 (by decide), br_s, ck_t (inb_nI (k := 10) (n := 6) (H1.sh rfl) hr (by decide)), cr, m91, if_neg (nI_pos (by omega)), ck_t (inb_nI (k := 10) (n := 6) (H1.sh rfl) ht (by decide)), ct, m91t, if_neg (by decide), m45]
          · have hnet : ¬ h.2.1 9 t = -1 := by rw [ent]; exact n_ne nt (by omega)
            have er : (h.2.1 9 r).toInt = nr := by rw [enr, nI_toInt (by omega)]
            have et : (h.2.1 9 t).toInt = nt := by rw [ent, nI_toInt (by omega)]
            by_cases c1 : 0 ≤ i.toInt ∧ i.toInt + n.toInt ≤ (h.2.1 9 r).toInt
            · by_cases c2 : 0 ≤ j.toInt ∧ j.toInt + n.toInt ≤ (h.2.1 9 t).toInt
              · obtain ⟨i, hi, rfl⟩ := n_of0 (x := i) (m := 40) c1.1 (by omega) (by decide)
                obtain ⟨j, hj, rfl⟩ := n_of0 (x := j) (m := 40) c2.1 (by omega) (by decide)
                obtain ⟨n, hn2, rfl⟩ := n_of0 (x := n) (m := 40) hn (by omega) (by decide)
                have ti : (nI i).toInt = i := nI_toInt (by omega)
                have tj : (nI j).toInt = j := nI_toInt (by omega)
                have tn : (nI n).toInt = n := nI_toInt (by omega)
                have hsr := S.2.2.2.2.2.1 r hr
                have hst := S.2.2.2.2.2.1 t ht
                have bi : i + n ≤ nr := by omega
                have bj : j + n ≤ nt := by omega
                refine ⟨1, gz_cp h (3 + r) (3 + t) (nI i) (nI j) (nI n), uF (gz_cp h (3 + r) (3 + t) (nI i) (nI j) (nI n)) 92 (fun p => if 40 * t + j ≤ p ∧ p < 40 * t + j + n then h.2.1 92 (40 * r + i + (p - (40 * t + j))) else h.2.1 92 p), ?_, H.1, ?_, ?_⟩
                · unfold fX8_copy fX8_copy_0
                  rw [ck_t (H.ck rfl), H.rf 0 0 1 (by decide), br_s, ck_t (H.ck rfl), p_knows_in S hr, b2_s, if_neg (by decide), ck_t (H.ck rfl), H.rf 0 0 1 (by decide), br_s, ck_t (H.ck rfl), p_knows_in S ht, b2_s, if_neg (by decide), if_pos hn', ck_t (H.ck rfl), H.rf 0 0 1 (by decide), br_s, ck_t (H.ck rfl), p_has1 S hr hner, b2_s, if_neg (by decide), ck_t (H.ck rfl), H.rf 0 0 1 (by decide), br_s, ck_t (H.ck rfl), p_has1 S ht hnet, b2_s, if_neg (by decide), ck_t (H.ck rfl), H.rf 0 0 1 (by decide), br_s, ck_t (H.ck rfl), p_str S hr, if_pos c1, b2_s, if_neg (by decide), ck_t (H.ck rfl), H.rf 0 0 1 (by decide), br_s, ck_t (H.ck rfl), p_str S ht, if_pos c2, b2_s, if_neg (by decide), ck_t (H.ck rfl), H.rf 0 0 1 (by decide), br_s, ck_t (H.ck rfl), H.rf 1 1 2 (by decide), br_s, ck_t (inb_nI (k := 13) (n := 6) (H.sh rfl) hr (by decide)), cr, hsr.1, br_s, ck_t (inb_nI (k := 13) (n := 6) (H.sh rfl) ht (by decide)), ct, hst.1, br_s, ck_t (cpOk_t hsr.2 hst.2 (by omega) (by omega) (by decide) (by decide)), lt_d]
                · have H1 : gz_La (gz_cp h (3 + r) (3 + t) (nI i) (nI j) (nI n)) := H.of rfl rfl
                  have o92 : ∀ a p, 9 ≤ a → (gz_cp h (3 + r) (3 + t) (nI i) (nI j) (nI n)).2.1 a p = h.2.1 a p := fun a p ha => by
                    unfold gz_cp
                    rw [uF_I, if_neg (by omega)]
                  have m91 : (gz_cp h (3 + r) (3 + t) (nI i) (nI j) (nI n)).2.1 91 r = nI nr := by rw [o92 91 r (by omega), ← q1]; exact enr
                  have m91t : (gz_cp h (3 + r) (3 + t) (nI i) (nI j) (nI n)).2.1 91 t = nI nt := by rw [o92 91 t (by omega), ← u1]; exact ent
                  unfold fX9_copy fX9_copy_0
                  rw [p_isRow_in hr, b2_s, if_neg (by decide), p_isRow_in ht, b2_s, if_neg (by decide), if_pos hn', ck_t (H1.ck rfl), H1.rf 85 7 91 (by decide), br_s, ck_t (inb_nI (k := 10) (n := 6) (H1.sh rfl) hr (by decide)), cr, m91, if_neg (nI_pos (by omega)), ck_t (inb_nI (k := 10) (n := 6) (H1.sh rfl) ht (by decide)), ct, m91t, if_pos (nI_pos' (by omega)), m_span H1 hr, m91, if_pos (by rw [ti, tn, nI_toInt (by omega)]; omega), b2_s, if_neg (by decide), ck_t (H1.ck rfl), m_span H1 ht, m91t, if_pos (by rw [tj, tn, nI_toInt (by omega)]; omega), b2_s, if_neg (by decide)]
                  unfold fX9_copy_91
                  generalize hg1 : gz_cp h (3 + r) (3 + t) (nI i) (nI j) (nI n) = g1 at *
                  by_cases c3 : j ≤ i
                  · rw [if_pos (nI_le c3 (by omega))]
                    have := m_cpF H1 hr ht (show i + n ≤ 40 by omega) (show j + n ≤ 40 by omega) c3 gz_fu 0 (by omega) (by show n < 0 + 100000; omega)
                    have e0 : uF g1 92 (cpF (g1.2.1 92) (40 * r + i) (40 * t + j) 0) = g1 := by
                      refine (uF_cg fun p => ?_).trans (uF_self (h := g1) (a := 92))
                      unfold cpF
                      rw [if_neg (by omega)]
                    rw [e0] at this
                    refine this.trans ?_
                    refine congrArg some (congrArg (Prod.mk _) (uF_cg fun p => ?_))
                    unfold cpF
                    rw [o92 92 _ (by omega), o92 92 _ (by omega)]
                  · rw [if_neg (nI_ge (by omega) (by omega))]
                    have := m_cpB H1 hr ht (show i + n ≤ 40 by omega) (show j + n ≤ 40 by omega) (by omega) gz_fu 0 (by omega) (by show n < 0 + 100000; omega)
                    have e0 : uF g1 92 (cpB (g1.2.1 92) (40 * r + i) (40 * t + j) n 0) = g1 := by
                      refine (uF_cg fun p => ?_).trans (uF_self (h := g1) (a := 92))
                      unfold cpB
                      rw [if_neg (by omega)]
                    rw [e0] at this
                    refine this.trans ?_
                    refine congrArg some (congrArg (Prod.mk _) (uF_cg fun p => ?_))
                    unfold cpB
                    rw [o92 92 _ (by omega), o92 92 _ (by omega), Nat.sub_self, Nat.add_zero]
                · unfold gz_cp
                  refine rw_cp I0 hr ht (show i + n ≤ 40 by omega) (show j + n ≤ 40 by omega) _ _ (fun k hk => ?_) (fun p => rfl)
                  rw [nI_clamp (by omega), nI_clamp (by omega), nI_clamp (by omega)]
                  by_cases c4 : j ≤ k ∧ k < j + n
                  · rw [if_pos c4, pk_cpy_in c4.1 c4.2]
                  · rw [if_neg c4, pk_cpy_out (by omega)]
              · refine st_findE I0 (f := 2) (by decide) (X := fX8_copy 0 (nI r) i (nI t) j n) (M := fX9_copy 85 (nI r) i (nI t) j n) ?_ ?_
                · unfold fX8_copy fX8_copy_0
                  rw [ck_t (H.ck rfl), H.rf 0 0 1 (by decide), br_s, ck_t (H.ck rfl), p_knows_in S hr, b2_s, if_neg (by decide), ck_t (H.ck rfl), H.rf 0 0 1 (by decide), br_s, ck_t (H.ck rfl), p_knows_in S ht, b2_s, if_neg (by decide), if_pos hn', ck_t (H.ck rfl), H.rf 0 0 1 (by decide), br_s, ck_t (H.ck rfl), p_has1 S hr hner, b2_s, if_neg (by decide), ck_t (H.ck rfl), H.rf 0 0 1 (by decide), br_s, ck_t (H.ck rfl), p_has1 S ht hnet, b2_s, if_neg (by decide), ck_t (H.ck rfl), H.rf 0 0 1 (by decide), br_s, ck_t (H.ck rfl), p_str S hr, if_pos c1, b2_s, if_neg (by decide), ck_t (H.ck rfl), H.rf 0 0 1 (by decide), br_s, ck_t (H.ck rfl), p_str S ht, if_neg c2, b2_s, if_pos rfl, x98]
                · have H1 := gz_xf_La (f := 2) H
                  have m91 : (gz_xf h 2).2.1 91 r = nI nr := by rw [gz_xf_I 91 r (by decide) (by decide), ← q1]; exact enr
                  have m91t : (gz_xf h 2).2.1 91 t = nI nt := by rw [gz_xf_I 91 t (by decide) (by decide), ← u1]; exact ent
                  unfold fX9_copy fX9_copy_0
                  rw [p_isRow_in hr, b2_s, if_neg (by decide), p_isRow_in ht, b2_s, if_neg (by decide), if_pos hn', ck_t (H1.ck rfl), H1.rf 85 7 91 (by decide), br_s, ck_t (inb_nI (k := 10) (n := 6) (H1.sh rfl) hr (by decide)), cr, m91, if_neg (nI_pos (by omega)), ck_t (inb_nI (k := 10) (n := 6) (H1.sh rfl) ht (by decide)), ct, m91t, if_pos (nI_pos' (by omega)), m_span H1 hr, m91, if_pos (by rw [← enr]; exact c1), b2_s, if_neg (by decide), ck_t (H1.ck rfl), m_span H1 ht, m91t, if_neg (by rw [← ent]; exact c2), b2_s, if_pos rfl, m74]
            · refine st_findE I0 (f := 2) (by decide) (X := fX8_copy 0 (nI r) i (nI t) j n) (M := fX9_copy 85 (nI r) i (nI t) j n) ?_ ?_
              · unfold fX8_copy fX8_copy_0
                rw [ck_t (H.ck rfl), H.rf 0 0 1 (by decide), br_s, ck_t (H.ck rfl), p_knows_in S hr, b2_s, if_neg (by decide), ck_t (H.ck rfl), H.rf 0 0 1 (by decide), br_s, ck_t (H.ck rfl), p_knows_in S ht, b2_s, if_neg (by decide), if_pos hn', ck_t (H.ck rfl), H.rf 0 0 1 (by decide), br_s, ck_t (H.ck rfl), p_has1 S hr hner, b2_s, if_neg (by decide), ck_t (H.ck rfl), H.rf 0 0 1 (by decide), br_s, ck_t (H.ck rfl), p_has1 S ht hnet, b2_s, if_neg (by decide), ck_t (H.ck rfl), H.rf 0 0 1 (by decide), br_s, ck_t (H.ck rfl), p_str S hr, if_neg c1, b2_s, if_pos rfl, x98]
              · have H1 := gz_xf_La (f := 2) H
                have m91 : (gz_xf h 2).2.1 91 r = nI nr := by rw [gz_xf_I 91 r (by decide) (by decide), ← q1]; exact enr
                have m91t : (gz_xf h 2).2.1 91 t = nI nt := by rw [gz_xf_I 91 t (by decide) (by decide), ← u1]; exact ent
                unfold fX9_copy fX9_copy_0
                rw [p_isRow_in hr, b2_s, if_neg (by decide), p_isRow_in ht, b2_s, if_neg (by decide), if_pos hn', ck_t (H1.ck rfl), H1.rf 85 7 91 (by decide), br_s, ck_t (inb_nI (k := 10) (n := 6) (H1.sh rfl) hr (by decide)), cr, m91, if_neg (nI_pos (by omega)), ck_t (inb_nI (k := 10) (n := 6) (H1.sh rfl) ht (by decide)), ct, m91t, if_pos (nI_pos' (by omega)), m_span H1 hr, m91, if_neg (by rw [← enr]; exact c1), b2_s, if_pos rfl, m74]
theorem op_copy {h : gz_H} (I : gz_Iv h) (x1 x2 x3 x4 x5 : Int32) : gz_ag (fX8_copy 0 x1 x2 x3 x4 x5) (fX9_copy 85 x1 x2 x3 x4 x5) h gz_Iv := ag_iv I (st_copy I.1 x1 x2 x3 x4 x5)
end
section
/-! PURE: a goose of the class -/
/-- only goose g changed: how many it holds, and its facts -/
def fr2 (h h' : gz_H) (g : Nat) : Prop := h'.1 = h.1 ∧ h'.2.2 = h.2.2 ∧ (∀ a k, a ≠ g → a ≠ g + 1 → h'.2.1 a k = h.2.1 a k) ∧ ∀ k, k ≠ 1 → h'.2.1 g k = h.2.1 g k
theorem fr2.rf {h : gz_H} {g : Nat} : fr2 h h g := ⟨rfl, rfl, fun _ _ _ _ => rfl, fun _ _ => rfl⟩
theorem fr2.tr {h h1 h2 : gz_H} {g : Nat} (a : fr2 h h1 g) (b : fr2 h1 h2 g) : fr2 h h2 g := ⟨b.1.trans a.1, b.2.1.trans a.2.1, fun x k h1 h2 => (b.2.2.1 x k h1 h2).trans (a.2.2.1 x k h1 h2), fun k hk => (b.2.2.2 k hk).trans (a.2.2.2 k hk)⟩
theorem ld_app {a b : List Nat} {x : Nat} : (a ++ x :: b).getD a.length 0 = x := by simp [List.getD]
theorem ld_lt {a b : List Nat} {k : Nat} (h : k < a.length) : (a ++ b).getD k 0 = a.getD k 0 := by simp [List.getD, List.getElem?_append_left h]
theorem ld_ge {a b : List Nat} {k : Nat} (h : a.length ≤ k) : (a ++ b).getD k 0 = b.getD (k - a.length) 0 := by simp [List.getD, List.getElem?_append_right h]
theorem ld_mem {l : List Nat} {k : Nat} (h : k < l.length) : l.getD k 0 ∈ l := by
  rw [List.getD_eq_getElem?_getD, List.getElem?_eq_getElem h]
  exact List.getElem_mem h
section
variable {h : gz_H} {g : Nat} {l : List Nat}
theorem x_pio2 (V : gv h g l) (hb : ∀ x ∈ l, x < 8) {f : Nat} (hf : f < 8) : ∀ (m i : Nat), i ≤ l.length → l.length < i + m → (∀ k, k < i → l.getD k 0 ≠ f) → (f ∉ l → fX2_placeInOrder_2 m g (nI f) (nI i) h = some (-9, h)) ∧ (∀ a b, l = a ++ f :: b → f ∉ a → fX2_placeInOrder_2 m g (nI f) (nI i) h = some (nI a.length, h)) := by
  obtain ⟨v1, v2, v3, v4, v5, v6⟩ := V
  intro m
  induction m with
  | zero => intro i h1 h2; omega
  | succ m ih =>
    intro i h1 h2 h3
    rw [fX2_placeInOrder_2, ck_t (sh_t v1), v5]
    by_cases e : i = l.length
    · rw [if_pos (nI_le (by omega) (by omega))]
      refine ⟨fun _ => rfl, fun a b e1 e2 => ?_⟩
      exfalso
      have hlen : l.length = a.length + (b.length + 1) := by rw [e1]; simp
      refine h3 a.length (by omega) ?_
      rw [e1]
      exact ld_app
    · rw [if_neg (nI_ge (by omega) (by omega)), v3, br_s, ck_t (inb_nI v2 (by omega) (by decide)), nI_clamp (by omega), v6 i (by omega)]
      have hx := hb _ (ld_mem (l := l) (k := i) (by omega))
      by_cases e2 : l.getD i 0 = f
      · rw [if_pos (by rw [e2])]
        refine ⟨fun hn => absurd (by rw [← e2]; exact ld_mem (by omega)) hn, fun a b e3 e4 => ?_⟩
        have hia : i = a.length := by
          rcases Nat.lt_trichotomy i a.length with q | q | q
          · exfalso
            apply e4
            rw [← e2, e3, ld_lt q]
            exact ld_mem q
          · exact q
          · exact absurd (by rw [e3]; exact ld_app) (h3 a.length q)
        rw [hia]
      · have hne : ¬ nI (l.getD i 0) = nI f := fun z => e2 ((nI_eq (by omega) (by omega)).mp z)
        rw [if_neg hne, nI_1]
        exact ih (i + 1) (by omega) (by omega) (fun k hk => by
          rcases Nat.lt_or_ge k i with q | q
          · exact h3 k q
          · rw [show k = i by omega]; exact e2)
theorem x_pio_no (V : gv h g l) (hb : ∀ x ∈ l, x < 8) {f : Nat} (hf : f < 8) (hn : f ∉ l) : fX2_placeInOrder g (nI f) h = some (-9, h) :=
  (x_pio2 V hb hf gz_fu 0 (by omega) (by show l.length < 0 + 100000; have := V.2.2.2.1; omega) (fun k hk => absurd hk (by omega))).1 hn
theorem x_pio_at (V : gv h g l) (hb : ∀ x ∈ l, x < 8) {f : Nat} (hf : f < 8) {a b : List Nat} (e : l = a ++ f :: b) (hn : f ∉ a) : fX2_placeInOrder g (nI f) h = some (nI a.length, h) :=
  (x_pio2 V hb hf gz_fu 0 (by omega) (by show l.length < 0 + 100000; have := V.2.2.2.1; omega) (fun k hk => absurd hk (by omega))).2 a b e hn
theorem x_hasFact (V : gv h g l) (hb : ∀ x ∈ l, x < 8) {f : Nat} (hf : f < 8) : fX2_hasFact g (nI f) h = some (if f ∈ l then 1 else 0, h) := by
  unfold fX2_hasFact fX2_hasFact_0
  rw [ck_t (sh_t V.1)]
  by_cases e : f ∈ l
  · obtain ⟨a, b, e1, e2⟩ := List.eq_append_cons_of_mem e
    rw [x_pio_at V hb hf e1 e2, b2_s, if_neg, if_pos e]
    intro z
    have h1 := congrArg Int32.toInt z
    have : a.length < 8 := by
      have := V.2.2.2.1
      rw [e1] at this
      simp at this
      omega
    rw [nI_toInt (by omega)] at h1
    have h2 : (-9 : Int32).toInt = -9 := rfl
    omega
  · rw [x_pio_no V hb hf e, b2_s, if_pos rfl, if_neg e]
theorem x_isFilled (V : gv h g l) {mo : Nat} (hm : h.2.1 g 3 = nI mo) (hmo : mo ≤ 8) : fX2_isFilled g h = some (if mo ≤ l.length then 1 else 0, h) := by
  unfold fX2_isFilled fX2_isFilled_0
  have := V.2.2.2.1
  rw [ck_t (sh_t V.1), V.2.2.2.2.1, hm]
  by_cases e : mo ≤ l.length
  · rw [if_neg (nI_nlt e (by omega)), if_pos e]
  · rw [if_pos (nI_lt (by omega) (by omega)), if_neg e]
theorem x_newest_no (V : gv h g l) (e : l = []) : fX2_newest g h = some (-9, h) := by
  unfold fX2_newest fX2_newest_0
  rw [ck_t (sh_t V.1), V.2.2.2.2.1, e, if_pos (by decide)]
theorem x_newest_at (V : gv h g l) {a : List Nat} {f : Nat} (e : l = a ++ [f]) : fX2_newest g h = some (nI f, h) := by
  obtain ⟨v1, v2, v3, v4, v5, v6⟩ := V
  have hl : l.length = a.length + 1 := by rw [e]; simp
  unfold fX2_newest fX2_newest_0
  rw [ck_t (sh_t v1), v5, if_neg (nI_nle (by omega) (by omega)), v3, br_s, hl, nI_pred, ck_t (inb_nI v2 (by omega) (by decide)), nI_clamp (by omega), v6 a.length (by omega), e, ld_app]
theorem x_oldest_no (V : gv h g l) (e : l = []) : fX2_oldest g h = some (-9, h) := by
  unfold fX2_oldest fX2_oldest_0
  rw [ck_t (sh_t V.1), V.2.2.2.2.1, e, if_pos (by decide)]
theorem x_oldest_at (V : gv h g l) {a : List Nat} {f : Nat} (e : l = f :: a) : fX2_oldest g h = some (nI f, h) := by
  obtain ⟨v1, v2, v3, v4, v5, v6⟩ := V
  have hl : l.length = a.length + 1 := by rw [e]; simp
  unfold fX2_oldest fX2_oldest_0
  rw [ck_t (sh_t v1), v5, if_neg (nI_nle (by omega) (by omega)), v3, br_s, show (0 : Int32) = nI 0 from rfl, ck_t (inb_nI v2 (by omega) (by decide)), nI_clamp (by omega), v6 0 (by omega), e]
  rfl
theorem x_rm15 {n : Nat} (hn : n ≤ 8) (h0 : 0 < n) : ∀ (m k : Nat) (h : gz_H), h.1[g]? = some (2, 6) → h.1[g + 1]? = some (10, 8) → h.2.2.2 g 0 = some (g + 1) → h.2.1 g 1 = nI n → k < n → n ≤ k + m → fX2_removeAt_15 m g (nI k) h = some ((), uI (uF h (g + 1) (fun p => if k ≤ p ∧ p + 1 < n then h.2.1 (g + 1) (p + 1) else h.2.1 (g + 1) p)) g 1 (nI (n - 1))) := by
  intro m
  induction m with
  | zero => intro k h v1 v2 v3 v5 h1 h2; omega
  | succ m ih =>
    intro k h v1 v2 v3 v5 h1 h2
    rw [fX2_removeAt_15, ck_t (sh_t v1), v5, nI_1]
    by_cases e : k + 1 = n
    · rw [if_pos (nI_le (by omega) (by omega)), lt_d, show (1 : Int32) = nI 1 from rfl, pk_sub (by omega)]
      refine congrArg some (congrArg (Prod.mk ()) ?_)
      have e1 : uF h (g + 1) (fun p => if k ≤ p ∧ p + 1 < n then h.2.1 (g + 1) (p + 1) else h.2.1 (g + 1) p) = h := by
        refine (uF_cg fun p => ?_).trans (uF_self (h := h) (a := g + 1))
        rw [if_neg (by omega)]
      rw [e1]
    · have e2 : (uI h (g + 1) k (h.2.1 (g + 1) (k + 1))).2.1 g 1 = nI n := by rw [uI_I, if_neg (by omega)]; exact v5
      rw [if_neg (nI_ge (by omega) (by omega)), v3, br_s, ck_t (inb_nI v2 (by omega) (by decide)), ck_t (inb_nI v2 (by omega) (by decide)), nI_clamp (by omega), nI_clamp (by omega), lt_d, ih (k + 1) (uI h (g + 1) k (h.2.1 (g + 1) (k + 1))) v1 v2 v3 e2 (by omega) (by omega), uF_uI]
      refine congrArg some (congrArg (Prod.mk ()) (congrArg (fun z => uI z g 1 (nI (n - 1))) (uF_cg fun p => ?_)))
      rw [uI_I, uI_I]
      by_cases c1 : p = k
      · subst c1
        rw [if_neg (by omega), if_pos ⟨rfl, rfl⟩, if_pos (by omega)]
      · have c2 : ¬ (g + 1 = g + 1 ∧ p = k) := fun z => c1 z.2
        rw [if_neg c2]
        by_cases c3 : k + 1 ≤ p ∧ p + 1 < n
        · rw [if_pos c3, if_neg (show ¬ (g + 1 = g + 1 ∧ p + 1 = k) from by omega), if_pos (by omega)]
        · rw [if_neg c3, if_neg (by omega)]
theorem x_removeAt (V : gv h g l) {a b : List Nat} {x : Nat} (e : l = a ++ x :: b) : ∃ h', fX2_removeAt g (nI a.length) h = some ((), h') ∧ gv h' g (a ++ b) ∧ fr2 h h' g := by
  obtain ⟨v1, v2, v3, v4, v5, v6⟩ := V
  have hl : l.length = a.length + (b.length + 1) := by rw [e]; simp
  refine ⟨uI (uF h (g + 1) (fun p => if a.length ≤ p ∧ p + 1 < l.length then h.2.1 (g + 1) (p + 1) else h.2.1 (g + 1) p)) g 1 (nI (l.length - 1)), ?_, ⟨v1, v2, v3, by simp; omega, ?_, fun k hk => ?_⟩, rfl, rfl, fun y k h1 h2 => by rw [uI_I, if_neg (by omega), uF_I, if_neg h2], fun k hk => by rw [uI_I, if_neg (by omega), uF_I, if_neg (by omega)]⟩
  · unfold fX2_removeAt fX2_removeAt_0
    rw [if_neg (nI_pos (by omega)), ck_t (sh_t v1), v5, if_pos (nI_lt (by omega) (by omega))]
    exact x_rm15 v4 (by omega) gz_fu a.length h v1 v2 v3 v5 (by omega) (by show l.length ≤ a.length + 100000; omega)
  · rw [uI_I, if_pos ⟨rfl, rfl⟩]
    congr 1
    simp
    omega
  · have hk2 : k < a.length + b.length := by simpa using hk
    rw [uI_I, if_neg (by omega), uF_I, if_pos rfl]
    by_cases c : a.length ≤ k ∧ k + 1 < l.length
    · rw [if_pos c, v6 (k + 1) (by omega), e, ld_ge (by omega), ld_ge c.1, show k + 1 - a.length = (k - a.length) + 1 by omega]
      rfl
    · rw [if_neg c, v6 k (by omega), e, ld_lt (show k < a.length by omega), ld_lt (show k < a.length by omega)]
theorem x_tk40 (V : gv h g l) (hl : l.length < 8) (f : Nat) (y : Int32) : ∃ h', fX2_take_40 g (nI f) y h = some (y, h') ∧ gv h' g (l ++ [f]) ∧ fr2 h h' g := by
  obtain ⟨v1, v2, v3, v4, v5, v6⟩ := V
  refine ⟨uI (uI h g 1 (nI (l.length + 1))) (g + 1) l.length (nI f), ?_, ⟨v1, v2, v3, by simp; omega, ?_, fun k hk => ?_⟩, rfl, rfl, fun y k h1 h2 => by rw [uI_I, if_neg (by omega), uI_I, if_neg (by omega)], fun k hk => by rw [uI_I, if_neg (by omega), uI_I, if_neg (by omega)]⟩
  · unfold fX2_take_40
    rw [ck_t (sh_t v1), v5, if_neg (show ¬ (8 : Int32) ≤ nI l.length from nI_ge (b := 8) hl (by decide)), v3, br_s, lt_d, inb_uI, ck_t (inb_nI v2 hl (by decide)), nI_clamp (by omega), lt_d, nI_1]
  · rw [uI_I, if_neg (by omega), uI_I, if_pos ⟨rfl, rfl⟩]
    simp
  · have hk2 : k < l.length + 1 := by simpa using hk
    rw [uI_I]
    by_cases c : k = l.length
    · rw [if_pos ⟨rfl, c⟩, c, ld_app]
    · rw [if_neg (fun z => c z.2), uI_I, if_neg (by omega), v6 k (by omega), ld_lt (by omega)]
theorem tk_at {mo f : Nat} {a b : List Nat} (hn : f ∉ a) : tk mo (a ++ f :: b) f = a ++ b ++ [f] := by
  unfold tk
  rw [if_pos (by simp), List.erase_append_right _ hn]
  simp
theorem tk_full {mo f x : Nat} {b : List Nat} (hn : f ∉ x :: b) (hm : mo ≤ b.length + 1) : tk mo (x :: b) f = b ++ [f] := by
  unfold tk
  rw [if_neg hn, if_pos (by simpa using hm)]
  rfl
theorem tk_add {mo f : Nat} {l : List Nat} (hn : f ∉ l) (hm : ¬ mo ≤ l.length) : tk mo l f = l ++ [f] := by
  unfold tk
  rw [if_neg hn, if_neg hm]
/-- what falls out -/
def tkA (mo : Nat) (l : List Nat) (f : Nat) : Int32 := if f ∈ l then -9 else if mo ≤ l.length then nI (l.getD 0 0) else -9
theorem x_take (V : gv h g l) (hb : ∀ x ∈ l, x < 8) {mo : Nat} (hm : h.2.1 g 3 = nI mo) (h1 : 1 ≤ mo) (hmo : mo ≤ 8) (hlm : l.length ≤ mo) {f : Nat} (hf : f < 8) : ∃ h', fX2_take g (nI f) h = some (tkA mo l f, h') ∧ gv h' g (tk mo l f) ∧ fr2 h h' g := by
  unfold fX2_take fX2_take_0
  rw [ck_t (sh_t V.1)]
  by_cases e : f ∈ l
  · obtain ⟨a, b, e1, e2⟩ := List.eq_append_cons_of_mem e
    have hal : a.length < 8 := by
      have := V.2.2.2.1
      rw [e1] at this
      simp at this
      omega
    rw [x_pio_at V hb hf e1 e2, b2_s, if_neg, ck_t (sh_t V.1)]
    · obtain ⟨h1, k1, k2, k3⟩ := x_removeAt V e1
      have hab : (a ++ b).length < 8 := by
        have := V.2.2.2.1
        rw [e1] at this
        simp at this ⊢
        omega
      obtain ⟨h2, k4, k5, k6⟩ := x_tk40 k2 hab f (-9)
      rw [k1, b2_s, k4]
      refine ⟨h2, ?_, ?_, k3.tr k6⟩
      · unfold tkA
        rw [if_pos e]
      · rw [e1, tk_at e2]
        exact k5
    · intro z
      have q1 := congrArg Int32.toInt z
      rw [nI_toInt (by omega)] at q1
      have q2 : (-9 : Int32).toInt = -9 := rfl
      omega
  · rw [x_pio_no V hb hf e, b2_s, if_pos rfl, ck_t (sh_t V.1), x_isFilled V hm hmo, b2_s]
    by_cases c : mo ≤ l.length
    · have c0 : ¬ ((1 : Int32) = 0) := by decide
      rw [if_pos c, if_neg c0, ck_t (sh_t V.1)]
      cases hl : l with
      | nil => rw [hl] at c; simp at c; omega
      | cons x b =>
        rw [x_oldest_at V hl, b2_s, ck_t (sh_t V.1)]
        obtain ⟨h1, k1, k2, k3⟩ := x_removeAt V (a := []) (x := x) (b := b) hl
        have hbl : b.length < 8 := by
          have := V.2.2.2.1
          rw [hl] at this
          simp at this
          omega
        obtain ⟨h2, k4, k5, k6⟩ := x_tk40 k2 hbl f (nI x)
        have k1' : fX2_removeAt g (0 : Int32) h = some ((), h1) := k1
        rw [k1', b2_s, k4]
        refine ⟨h2, ?_, ?_, k3.tr k6⟩
        · unfold tkA
          rw [← hl, if_neg e, if_pos c, hl]
          rfl
        · rw [hl] at e c
          rw [tk_full e (by simpa using c)]
          exact k5
    · rw [if_neg c, if_pos rfl]
      obtain ⟨h2, k4, k5, k6⟩ := x_tk40 V (by omega) f (-9)
      rw [k4]
      refine ⟨h2, ?_, ?_, k6⟩
      · unfold tkA
        rw [if_neg e, if_neg c]
      · rw [tk_add e c]
        exact k5
/-- the newest fact as an answer -/
def nw (l : List Nat) : Int32 := match l.getLast? with
  | some f => nI f
  | none => -9
theorem x_newest (V : gv h g l) : fX2_newest g h = some (nw l, h) := by
  rcases List.eq_nil_or_concat l with e | ⟨a, f, e⟩
  · rw [x_newest_no V e, e]
    rfl
  · rw [List.concat_eq_append] at e
    rw [x_newest_at V e, e]
    unfold nw
    simp
theorem x_lose (V : gv h g l) : ∃ h', fX2_loseNewest g h = some (nw l, h') ∧ gv h' g l.dropLast ∧ fr2 h h' g := by
  have V0 := V
  obtain ⟨v1, v2, v3, v4, v5, v6⟩ := V
  unfold fX2_loseNewest fX2_loseNewest_0
  rw [ck_t (sh_t v1), x_newest V0, b2_s, ck_t (sh_t v1), v5]
  by_cases e : l = []
  · refine ⟨h, ?_, ?_, fr2.rf⟩
    · rw [e, if_pos (by decide)]
    · rw [e] at V0 ⊢
      exact V0
  · have hpos : 0 < l.length := List.length_pos_iff.mpr e
    refine ⟨uI h g 1 (nI (l.length - 1)), ?_, ⟨v1, v2, v3, by simp; omega, ?_, fun k hk => ?_⟩, rfl, rfl, fun y k h1 h2 => by rw [uI_I, if_neg (by omega)], fun k hk => by rw [uI_I, if_neg (by omega)]⟩
    · rw [if_neg (nI_nle hpos (by omega)), lt_d, show (1 : Int32) = nI 1 from rfl, pk_sub (by omega)]
    · rw [uI_I, if_pos ⟨rfl, rfl⟩]
      simp
    · have hk2 : k < l.length - 1 := by simpa using hk
      rw [uI_I, if_neg (by omega), v6 k (by omega)]
      congr 1
      rw [List.getD_eq_getElem?_getD, List.getD_eq_getElem?_getD, List.getElem?_dropLast, if_pos hk2]
end
end
section
/-! PURE: the flock of now, as the class and as the reference have it -/
/-- cells that are only scratch -/
def scr (a k : Nat) : Prop := (73 ≤ a ∧ a ≤ 78) ∨ (21 ≤ a ∧ a ≤ 24) ∨ (a = 85 ∧ k = 25) ∨ (100 ≤ a ∧ a ≤ 102)
def sc (h h' : gz_H) : Prop := h'.1 = h.1 ∧ h'.2.2 = h.2.2 ∧ ∀ a k, ¬ scr a k → h'.2.1 a k = h.2.1 a k
theorem sc.rf {h : gz_H} : sc h h := ⟨rfl, rfl, fun _ _ _ => rfl⟩
theorem sc.tr {h h1 h2 : gz_H} (a : sc h h1) (b : sc h1 h2) : sc h h2 := ⟨b.1.trans a.1, b.2.1.trans a.2.1, fun x k e => (b.2.2 x k e).trans (a.2.2 x k e)⟩
theorem sc.uI {h : gz_H} {a k : Nat} {v : Int32} (e : scr a k) : sc h (uI h a k v) := ⟨rfl, rfl, fun x j q => uI_ne (fun z => q (by rw [z.1, z.2]; exact e))⟩
theorem sc.uF {h : gz_H} {a : Nat} {f : Nat → Int32} (e : ∀ k, scr a k) : sc h (uF h a f) := ⟨rfl, rfl, fun x j q => uF_ne (fun z => q (by rw [z]; exact e j))⟩
theorem sc.la {h h' : gz_H} (s : sc h h') (H : gz_La h) : gz_La h' := H.of s.1 (congrArg Prod.snd s.2.1)
theorem sc.st {h h' : gz_H} (s : sc h h') (I : gz_In h) : gz_St h h' := by
  obtain ⟨H, F, Rw, Tx, Sc⟩ := I
  have e := s.2.2
  unfold scr at e
  exact ⟨⟨s.la H, F.cg (fun a k ha => e a k (by omega)), Rw.cg (fun a k ha => e a k (by omega)), Tx.cg (fun a k ha => e a k (by omega)), Sc.cg (fun a k ha => e a k (by omega)) (congrArg Prod.fst s.2.1)⟩, congrArg Prod.snd s.2.1, fun a k ha => e a k (by unfold gz_ff at ha; omega)⟩
def XV (h : gz_H) (T : gz_T) (E : gz_D) : Prop := gz_La h ∧ wsT T ∧ wd T E ∧ xv h 28 T E
def MV (h : gz_H) (T : gz_T) (E : gz_D) : Prop := gz_La h ∧ wsT T ∧ wd T E ∧ msv h T ∧ mv h 0 T.2.1 E
theorem XV.sc {h h' : gz_H} {T : gz_T} {E : gz_D} (V : XV h T E) (s : sc h h') : XV h' T E := by
  obtain ⟨H, w, d, x⟩ := V
  have e := s.2.2
  unfold scr at e
  exact ⟨s.la H, w, d, x.cg w.2.1 s.1 (congrArg Prod.snd s.2.1) (fun a k h1 h2 => e a k (by omega))⟩
theorem MV.sc {h h' : gz_H} {T : gz_T} {E : gz_D} (V : MV h T E) (s : sc h h') : MV h' T E := by
  obtain ⟨H, w, d, ⟨b1, b2, b3, b4⟩, x⟩ := V
  have e := s.2.2
  unfold scr at e
  refine ⟨s.la H, w, d, ⟨by rw [e 85 1 (by omega)]; exact b1, by rw [e 85 3 (by omega)]; exact b2, fun k hk => by rw [e 87 k (by omega)]; exact b3 k hk, fun i hi => ?_⟩, x.cg (fun k => e 86 k (by omega))⟩
  rw [e 88 i (by omega), e 89 i (by omega), e 90 i (by omega)]
  exact b4 i hi
theorem gz_Fv.xv {h : gz_H} {T : gz_T} {D : gz_D} {ds : List gz_De} {ks : Nat → Option (List gz_De)} {sa : Nat} (H : gz_La h) (F : gz_Fv h T D ds ks sa) : XV h T (rn T D ds) := ⟨H, F.1.1, by have := F.1.2.2.2.1.2.2 ds.length (Nat.le_refl _); rw [List.take_length] at this; exact this, F.2.2.1.2.1⟩
theorem gz_Fv.mv {h : gz_H} {T : gz_T} {D : gz_D} {ds : List gz_De} {ks : Nat → Option (List gz_De)} {sa : Nat} (H : gz_La h) (F : gz_Fv h T D ds ks sa) : MV h T (rn T D ds) := ⟨H, F.1.1, (F.xv H).2.2.1, F.2.2.2.1, F.2.2.2.2.1.2.1⟩
/-- a question: both answer v, and only scratch and what was asked changes -/
theorem q_same {h : gz_H} (I : gz_Iv h) {α : Type} {v : α} {X M : gz_H → Option (α × gz_H)} (x : ∀ T E, XV h T E → MV h T E → ∃ h1 h2, X h = some (v, h1) ∧ sc h h1 ∧ (M h1 = some (v, h2)) ∧ sc h1 h2) : gz_ag X M h gz_Iv := by
  obtain ⟨T, D, ds, ks, sa, F⟩ := I.2
  obtain ⟨h1, h2, e1, s1, e2, s2⟩ := x T _ (F.xv I.1.1) (F.mv I.1.1)
  exact ⟨v, h1, h2, e1, s1.1.trans I.1.1.1, e2, ((s1.tr s2).st I.1).iv I⟩
/-- a question with an answer asked for -/
theorem q_ask {h : gz_H} (I : gz_Iv h) {α : Type} {v : α} {w : Int32} {X M : gz_H → Option (α × gz_H)} (x : ∀ T E, XV h T E → MV h T E → ∃ h1 h2, X h = some (v, h1) ∧ sc (uI h 0 18 w) h1 ∧ (M h1 = some (v, h2)) ∧ sc (uI h1 85 11 w) h2) : gz_ag X M h gz_Iv := by
  obtain ⟨T, D, ds, ks, sa, F⟩ := I.2
  obtain ⟨h1, h2, e1, s1, e2, s2⟩ := x T _ (F.xv I.1.1) (F.mv I.1.1)
  have S := st_ask (v := w) I.1 (gz_St.rf I.1)
  have s3 : sc (uI (uI h 0 18 w) 85 11 w) (uI h1 85 11 w) := ⟨s1.1, s1.2.1, fun a k q => by
    by_cases e : a = 85 ∧ k = 11
    · rw [uI_to e, uI_to e]
    · rw [uI_ne e, uI_ne e]; exact s1.2.2 a k q⟩
  have S2 := (s3.tr s2).st S.1
  refine ⟨v, h1, h2, e1, s1.1.trans I.1.1.1, e2, gz_St.iv (h := h) ⟨S2.1, S2.2.1.trans S.2.1, fun a k f => (S2.2.2 a k f).trans (S.2.2 a k f)⟩ I⟩
section
variable {h : gz_H} {T : gz_T} {E : gz_D}
theorem XV.H (V : XV h T E) : gz_La h := V.1
theorem XV.n (V : XV h T E) : h.2.1 28 3 = nI T.2.1 := V.2.2.2.2.1
theorem XV.f (V : XV h T E) : h.2.1 28 2 = nI T.1 := V.2.2.2.1
theorem XV.pl (V : XV h T E) (k : Nat) (hk : k < T.1) : h.2.1 29 k = nI (T.2.2.1 k) := V.2.2.2.2.2.1 k hk
theorem XV.gv (V : XV h T E) (i : Nat) (hi : i < T.2.1) : gv h (31 + 2 * i) (E i).1 := (V.2.2.2.2.2.2 i hi).1
theorem XV.mn (V : XV h T E) (i : Nat) (hi : i < T.2.1) : h.2.1 (31 + 2 * i) 1 = nI (E i).1.length := (V.gv i hi).2.2.2.2.1
theorem XV.fc (V : XV h T E) (i k : Nat) (hi : i < T.2.1) (hk : k < (E i).1.length) : h.2.1 (31 + 2 * i + 1) k = nI ((E i).1.getD k 0) := (V.gv i hi).2.2.2.2.2 k hk
theorem XV.kd (V : XV h T E) (i : Nat) (hi : i < T.2.1) : h.2.1 (31 + 2 * i) 2 = nI (T.2.2.2.1 i) := (V.2.2.2.2.2.2 i hi).2.1
theorem XV.mo (V : XV h T E) (i : Nat) (hi : i < T.2.1) : h.2.1 (31 + 2 * i) 3 = nI (T.2.2.2.2.1 i) := (V.2.2.2.2.2.2 i hi).2.2.1
theorem XV.rk (V : XV h T E) (i : Nat) (hi : i < T.2.1) : h.2.1 (31 + 2 * i) 4 = nI (T.2.2.2.2.2 i) := (V.2.2.2.2.2.2 i hi).2.2.2.1
theorem XV.gn (V : XV h T E) (i : Nat) (hi : i < T.2.1) : h.2.1 (31 + 2 * i) 5 = nI (if (E i).2 = true then 1 else 0) := by
  rw [← nI_if]; exact (V.2.2.2.2.2.2 i hi).2.2.2.2
theorem XV.b (V : XV h T E) : T.1 ≤ 8 ∧ T.2.1 ≤ 6 := ⟨V.2.1.1, V.2.1.2.1⟩
theorem wsT.bi (w : wsT T) (i : Nat) (hi : i < T.2.1) : T.2.2.2.1 i ≤ 5 ∧ 1 ≤ T.2.2.2.2.1 i ∧ T.2.2.2.2.1 i ≤ 8 ∧ T.2.2.2.2.2 i ≤ 9 := w.2.2.2.2 i hi
theorem XV.bi (V : XV h T E) (i : Nat) (hi : i < T.2.1) : T.2.2.2.1 i ≤ 5 ∧ 1 ≤ T.2.2.2.2.1 i ∧ T.2.2.2.2.1 i ≤ 8 ∧ T.2.2.2.2.2 i ≤ 9 ∧ (E i).1.length ≤ 8 ∧ (E i).1.length ≤ T.2.2.2.2.1 i := by
  have a := V.2.1.2.2.2.2 i hi
  have b := (V.2.2.1 i hi).1
  omega
theorem wd.bf {f : Nat} (w : wsT T) (d : wd T E) (i : Nat) (hi : i < T.2.1) (hf : f ∈ (E i).1) : f < T.1 ∧ f < 8 := by
  have a := (d i hi).2.2.1 f hf
  have b := w.1
  omega
theorem wd.bk (w : wsT T) (d : wd T E) (i k : Nat) (hi : i < T.2.1) (hk : k < (E i).1.length) : (E i).1.getD k 0 < T.1 ∧ (E i).1.getD k 0 < 8 := wd.bf w d i hi (ld_mem hk)
theorem MV.H (V : MV h T E) : gz_La h := V.1
theorem MV.n (V : MV h T E) : h.2.1 85 3 = nI T.2.1 := V.2.2.2.1.2.1
theorem MV.f (V : MV h T E) : h.2.1 85 1 = nI T.1 := V.2.2.2.1.1
theorem MV.pl (V : MV h T E) (k : Nat) (hk : k < T.1) : h.2.1 87 k = nI (T.2.2.1 k) := V.2.2.2.1.2.2.1 k hk
theorem MV.kd (V : MV h T E) (i : Nat) (hi : i < T.2.1) : h.2.1 88 i = nI (T.2.2.2.1 i) := (V.2.2.2.1.2.2.2 i hi).1
theorem MV.mo (V : MV h T E) (i : Nat) (hi : i < T.2.1) : h.2.1 89 i = nI (T.2.2.2.2.1 i) := (V.2.2.2.1.2.2.2 i hi).2.1
theorem MV.rk (V : MV h T E) (i : Nat) (hi : i < T.2.1) : h.2.1 90 i = nI (T.2.2.2.2.2 i) := (V.2.2.2.1.2.2.2 i hi).2.2
theorem MV.gb (V : MV h T E) : h.2.1 86 1 = nI (gbits T.2.1 E) := V.2.2.2.2.1
theorem MV.mn (V : MV h T E) (i : Nat) (hi : i < T.2.1) : h.2.1 86 (2 + i) = nI (E i).1.length := by
  have := (V.2.2.2.2.2 i hi).1
  rw [Nat.zero_add] at this
  exact this
theorem MV.fc (V : MV h T E) (i k : Nat) (hi : i < T.2.1) (hk : k < (E i).1.length) : h.2.1 86 (8 + 8 * i + k) = nI ((E i).1.getD k 0) := by
  have := (V.2.2.2.2.2 i hi).2 k hk
  rw [Nat.zero_add] at this
  exact this
theorem MV.b (V : MV h T E) : T.1 ≤ 8 ∧ T.2.1 ≤ 6 := ⟨V.2.1.1, V.2.1.2.1⟩
theorem MV.bi (V : MV h T E) (i : Nat) (hi : i < T.2.1) : T.2.2.2.1 i ≤ 5 ∧ 1 ≤ T.2.2.2.2.1 i ∧ T.2.2.2.2.1 i ≤ 8 ∧ T.2.2.2.2.2 i ≤ 9 ∧ (E i).1.length ≤ 8 ∧ (E i).1.length ≤ T.2.2.2.2.1 i := by
  have a := V.2.1.2.2.2.2 i hi
  have b := (V.2.2.1 i hi).1
  omega
theorem gb_lt (n : Nat) (hn : n ≤ 6) : gbits n E < 2 ^ 6 := fo_lt (b := 6) fun i hi => by
  by_cases e : (E i).2 = true
  · rw [if_pos e]; exact Nat.pow_lt_pow_right (by decide) (by omega)
  · rw [if_neg e]; decide
theorem gb_bit {n i : Nat} (hi : i < n) : (gbits n E).testBit i = (E i).2 := by
  have : (gbits n E).testBit i = true ↔ (E i).2 = true := by
    unfold gbits
    rw [fo_bit]
    constructor
    · rintro ⟨j, hj, e⟩
      by_cases q : (E j).2 = true
      · rw [if_pos q, bit_p] at e; rw [e]; exact q
      · rw [if_neg q] at e; simp at e
    · intro q
      exact ⟨i, hi, by rw [if_pos q, bit_p]⟩
  cases e1 : (gbits n E).testBit i <;> cases e2 : (E i).2 <;> simp_all
/-! who there is -/
theorem x_goose_in (V : XV h T E) {i : Nat} (hi : i < T.2.1) : fX1_hasGoose 28 (nI i) h = some (nI 1, h) := by
  have H := V.H
  have b := V.b
  unfold fX1_hasGoose fX1_hasGoose_0
  simp (disch := first | assumption | omega | rfl) only [V.n, ck_1, br_s, b2_s, bi_s, lt_d, bo_0, bo_1, lt_d, uI_1, uI_R, uI_L, uF_1, uF_R, uF_L, uL_1, uL_I, uL_R, uR_1, uR_I, uR_L, inb_uI, inb_uF, inb_uL, inb_uR, len_uI, len_uF, sh_uI, sh_uF, sh_uL, sh_uR, rf_0_0, rf_0_1, rf_0_2, rf_0_3, rf_0_4, rf_0_5, rf_0_6, rf_0_7, rf_0_8, rf_0_9, rf_0_12, rf_0_13, rf_0_14, rf_0_15, rf_0_16, rf_0_17, rf_1_1, rf_1_2, rf_10_1, rf_10_2, rf_18_0, rf_21_0, rf_23_0, rf_25_0, rf_27_0, rf_27_1, rf_27_2, rf_79_0, rf_81_0, rf_83_0, rf_28_0, rf_28_1, rf_31_0, rf_33_0, rf_35_0, rf_37_0, rf_39_0, rf_41_0, rf_43_0, rf_43_1, rf_46_0, rf_48_0, rf_50_0, rf_52_0, rf_54_0, rf_56_0, rf_58_0, rf_58_1, rf_61_0, rf_63_0, rf_65_0, rf_67_0, rf_69_0, rf_71_0, rf_85_0, rf_85_2, rf_85_4, rf_85_5, rf_85_6, rf_85_7, rf_85_8, rf_85_9, rf_85_10, rf_85_15, rf_85_19, rf_85_21, rf_85_22, rf_85_23, rf_85_26, rf_85_27, rf_85_28, rf_2, rf_11, rf_30, rf_45, rf_60, sgr_31, sgr_46, sgr_61, in_2, in_9, in_11, in_16, in_19, in_22, in_24, in_26, in_27, in_29, in_30, in_44, in_45, in_59, in_60, in_73, in_74, in_75, in_76, in_77, in_78, in_80, in_82, in_84, in_86, in_87, in_88, in_89, in_90, in_91, in_92, in_93, in_94, in_95, in_96, in_97, in_98, in_99, in_100, in_101, in_102, sh_0, sh_1, sh_10, sh_17, sh_18, sh_20, sh_21, sh_23, sh_25, sh_28, sh_43, sh_58, sh_79, sh_81, sh_83, sh_85, sgk_31, sgi_31, sgk_46, sgi_46, sgk_61, sgi_61, ini_rw, ini_tx, li_0, li_1, li_2, li_3, li_4, li_5, li_6, li_7, li_8, li_9, li_10, li_11, li_12, li_13, li_14, li_15, li_16, li_31, li_32, li_36, li_40, li_48, li_53, li_55, li_56, li_57, li_58, li_60, li_63, li_64, li_80, li_97, li_98, li_99, li_100, li_103, li_104, li_108, li_115, li_116, li_118, li_200, li_256, li_1000, li_2256, nI_m31, nI_sl, nI_bt, nI_or, nI_sub', nI_n9, nI_9n, nI_n1, bo_n0, bo_n1, bo_if, nI_if, nI_if0, nI_if1, if_10, if_11, t_bits, t_bc, t_has, nI_clamp, nI_add, pk_mul, pk_sub, nI_eq, nI_leI, nI_ltI, if_pos, if_neg, uI_at, uI_to, uI_ne, uF_at, uF_ne]
theorem x_goose_out (V : XV h T E) {x : Int32} (hx : p_out x T.2.1) : fX1_hasGoose 28 x h = some (nI 0, h) := by
  have H := V.H
  unfold fX1_hasGoose fX1_hasGoose_0
  by_cases e : x < 0
  · rw [if_pos e]; rfl
  · rw [if_neg e, ck_t (sh_28 H), V.n, if_pos (hx.resolve_left e)]; rfl
theorem x_fact_in (V : XV h T E) {i : Nat} (hi : i < T.1) : fX1_hasFact 28 (nI i) h = some (nI 1, h) := by
  have H := V.H
  have b := V.b
  unfold fX1_hasFact fX1_hasFact_0
  simp (disch := first | assumption | omega | rfl) only [V.f, ck_1, br_s, b2_s, bi_s, lt_d, bo_0, bo_1, lt_d, uI_1, uI_R, uI_L, uF_1, uF_R, uF_L, uL_1, uL_I, uL_R, uR_1, uR_I, uR_L, inb_uI, inb_uF, inb_uL, inb_uR, len_uI, len_uF, sh_uI, sh_uF, sh_uL, sh_uR, rf_0_0, rf_0_1, rf_0_2, rf_0_3, rf_0_4, rf_0_5, rf_0_6, rf_0_7, rf_0_8, rf_0_9, rf_0_12, rf_0_13, rf_0_14, rf_0_15, rf_0_16, rf_0_17, rf_1_1, rf_1_2, rf_10_1, rf_10_2, rf_18_0, rf_21_0, rf_23_0, rf_25_0, rf_27_0, rf_27_1, rf_27_2, rf_79_0, rf_81_0, rf_83_0, rf_28_0, rf_28_1, rf_31_0, rf_33_0, rf_35_0, rf_37_0, rf_39_0, rf_41_0, rf_43_0, rf_43_1, rf_46_0, rf_48_0, rf_50_0, rf_52_0, rf_54_0, rf_56_0, rf_58_0, rf_58_1, rf_61_0, rf_63_0, rf_65_0, rf_67_0, rf_69_0, rf_71_0, rf_85_0, rf_85_2, rf_85_4, rf_85_5, rf_85_6, rf_85_7, rf_85_8, rf_85_9, rf_85_10, rf_85_15, rf_85_19, rf_85_21, rf_85_22, rf_85_23, rf_85_26, rf_85_27, rf_85_28, rf_2, rf_11, rf_30, rf_45, rf_60, sgr_31, sgr_46, sgr_61, in_2, in_9, in_11, in_16, in_19, in_22, in_24, in_26, in_27, in_29, in_30, in_44, in_45, in_59, in_60, in_73, in_74, in_75, in_76, in_77, in_78, in_80, in_82, in_84, in_86, in_87, in_88, in_89, in_90, in_91, in_92, in_93, in_94, in_95, in_96, in_97, in_98, in_99, in_100, in_101, in_102, sh_0, sh_1, sh_10, sh_17, sh_18, sh_20, sh_21, sh_23, sh_25, sh_28, sh_43, sh_58, sh_79, sh_81, sh_83, sh_85, sgk_31, sgi_31, sgk_46, sgi_46, sgk_61, sgi_61, ini_rw, ini_tx, li_0, li_1, li_2, li_3, li_4, li_5, li_6, li_7, li_8, li_9, li_10, li_11, li_12, li_13, li_14, li_15, li_16, li_31, li_32, li_36, li_40, li_48, li_53, li_55, li_56, li_57, li_58, li_60, li_63, li_64, li_80, li_97, li_98, li_99, li_100, li_103, li_104, li_108, li_115, li_116, li_118, li_200, li_256, li_1000, li_2256, nI_m31, nI_sl, nI_bt, nI_or, nI_sub', nI_n9, nI_9n, nI_n1, bo_n0, bo_n1, bo_if, nI_if, nI_if0, nI_if1, if_10, if_11, t_bits, t_bc, t_has, nI_clamp, nI_add, pk_mul, pk_sub, nI_eq, nI_leI, nI_ltI, if_pos, if_neg, uI_at, uI_to, uI_ne, uF_at, uF_ne]
theorem x_fact_out (V : XV h T E) {x : Int32} (hx : p_out x T.1) : fX1_hasFact 28 x h = some (nI 0, h) := by
  have H := V.H
  unfold fX1_hasFact fX1_hasFact_0
  by_cases e : x < 0
  · rw [if_pos e]; rfl
  · rw [if_neg e, ck_t (sh_28 H), V.f, if_pos (hx.resolve_left e)]; rfl
theorem p2_lt {k : Nat} (hk : k ≤ 8) : 2 ^ k ≤ 256 ∧ 0 < 2 ^ k := ⟨Nat.pow_le_pow_right (n := 2) (by decide) hk, Nat.two_pow_pos k⟩
theorem x_fset_in (V : XV h T E) {s : Nat} (hs : s < 2 ^ T.1) : fX1_hasFactSet 28 (nI s) h = some (nI 1, h) := by
  have H := V.H
  have b := V.b
  have := p2_lt b.1
  unfold fX1_hasFactSet fX1_hasFactSet_0
  simp (disch := first | assumption | omega | rfl) only [V.f, ck_1, br_s, b2_s, bi_s, lt_d, bo_0, bo_1, lt_d, uI_1, uI_R, uI_L, uF_1, uF_R, uF_L, uL_1, uL_I, uL_R, uR_1, uR_I, uR_L, inb_uI, inb_uF, inb_uL, inb_uR, len_uI, len_uF, sh_uI, sh_uF, sh_uL, sh_uR, rf_0_0, rf_0_1, rf_0_2, rf_0_3, rf_0_4, rf_0_5, rf_0_6, rf_0_7, rf_0_8, rf_0_9, rf_0_12, rf_0_13, rf_0_14, rf_0_15, rf_0_16, rf_0_17, rf_1_1, rf_1_2, rf_10_1, rf_10_2, rf_18_0, rf_21_0, rf_23_0, rf_25_0, rf_27_0, rf_27_1, rf_27_2, rf_79_0, rf_81_0, rf_83_0, rf_28_0, rf_28_1, rf_31_0, rf_33_0, rf_35_0, rf_37_0, rf_39_0, rf_41_0, rf_43_0, rf_43_1, rf_46_0, rf_48_0, rf_50_0, rf_52_0, rf_54_0, rf_56_0, rf_58_0, rf_58_1, rf_61_0, rf_63_0, rf_65_0, rf_67_0, rf_69_0, rf_71_0, rf_85_0, rf_85_2, rf_85_4, rf_85_5, rf_85_6, rf_85_7, rf_85_8, rf_85_9, rf_85_10, rf_85_15, rf_85_19, rf_85_21, rf_85_22, rf_85_23, rf_85_26, rf_85_27, rf_85_28, rf_2, rf_11, rf_30, rf_45, rf_60, sgr_31, sgr_46, sgr_61, in_2, in_9, in_11, in_16, in_19, in_22, in_24, in_26, in_27, in_29, in_30, in_44, in_45, in_59, in_60, in_73, in_74, in_75, in_76, in_77, in_78, in_80, in_82, in_84, in_86, in_87, in_88, in_89, in_90, in_91, in_92, in_93, in_94, in_95, in_96, in_97, in_98, in_99, in_100, in_101, in_102, sh_0, sh_1, sh_10, sh_17, sh_18, sh_20, sh_21, sh_23, sh_25, sh_28, sh_43, sh_58, sh_79, sh_81, sh_83, sh_85, sgk_31, sgi_31, sgk_46, sgi_46, sgk_61, sgi_61, ini_rw, ini_tx, li_0, li_1, li_2, li_3, li_4, li_5, li_6, li_7, li_8, li_9, li_10, li_11, li_12, li_13, li_14, li_15, li_16, li_31, li_32, li_36, li_40, li_48, li_53, li_55, li_56, li_57, li_58, li_60, li_63, li_64, li_80, li_97, li_98, li_99, li_100, li_103, li_104, li_108, li_115, li_116, li_118, li_200, li_256, li_1000, li_2256, nI_m31, nI_sl, nI_bt, nI_or, nI_sub', nI_n9, nI_9n, nI_n1, bo_n0, bo_n1, bo_if, nI_if, nI_if0, nI_if1, if_10, if_11, t_bits, t_bc, t_has, nI_clamp, nI_add, pk_mul, pk_sub, nI_eq, nI_leI, nI_ltI, if_pos, if_neg, uI_at, uI_to, uI_ne, uF_at, uF_ne]
theorem x_fset_out (V : XV h T E) {x : Int32} (hx : p_out x (2 ^ T.1)) : fX1_hasFactSet 28 x h = some (nI 0, h) := by
  have H := V.H
  have b := V.b
  unfold fX1_hasFactSet fX1_hasFactSet_0
  by_cases e : x < 0
  · rw [if_pos e]; rfl
  · rw [if_neg e, ck_t (sh_28 H), V.f, show (1 : Int32) = nI 1 from rfl, show (31 : Int32) = nI 31 from rfl, nI_shl (by omega), if_pos (hx.resolve_left e)]; rfl
theorem x_gset_in (V : XV h T E) {s : Nat} (hs : s < 2 ^ T.2.1) : fX1_hasGooseSet 28 (nI s) h = some (nI 1, h) := by
  have H := V.H
  have b := V.b
  have := p2_lt (k := T.2.1) (by omega)
  unfold fX1_hasGooseSet fX1_hasGooseSet_0
  simp (disch := first | assumption | omega | rfl) only [V.n, ck_1, br_s, b2_s, bi_s, lt_d, bo_0, bo_1, lt_d, uI_1, uI_R, uI_L, uF_1, uF_R, uF_L, uL_1, uL_I, uL_R, uR_1, uR_I, uR_L, inb_uI, inb_uF, inb_uL, inb_uR, len_uI, len_uF, sh_uI, sh_uF, sh_uL, sh_uR, rf_0_0, rf_0_1, rf_0_2, rf_0_3, rf_0_4, rf_0_5, rf_0_6, rf_0_7, rf_0_8, rf_0_9, rf_0_12, rf_0_13, rf_0_14, rf_0_15, rf_0_16, rf_0_17, rf_1_1, rf_1_2, rf_10_1, rf_10_2, rf_18_0, rf_21_0, rf_23_0, rf_25_0, rf_27_0, rf_27_1, rf_27_2, rf_79_0, rf_81_0, rf_83_0, rf_28_0, rf_28_1, rf_31_0, rf_33_0, rf_35_0, rf_37_0, rf_39_0, rf_41_0, rf_43_0, rf_43_1, rf_46_0, rf_48_0, rf_50_0, rf_52_0, rf_54_0, rf_56_0, rf_58_0, rf_58_1, rf_61_0, rf_63_0, rf_65_0, rf_67_0, rf_69_0, rf_71_0, rf_85_0, rf_85_2, rf_85_4, rf_85_5, rf_85_6, rf_85_7, rf_85_8, rf_85_9, rf_85_10, rf_85_15, rf_85_19, rf_85_21, rf_85_22, rf_85_23, rf_85_26, rf_85_27, rf_85_28, rf_2, rf_11, rf_30, rf_45, rf_60, sgr_31, sgr_46, sgr_61, in_2, in_9, in_11, in_16, in_19, in_22, in_24, in_26, in_27, in_29, in_30, in_44, in_45, in_59, in_60, in_73, in_74, in_75, in_76, in_77, in_78, in_80, in_82, in_84, in_86, in_87, in_88, in_89, in_90, in_91, in_92, in_93, in_94, in_95, in_96, in_97, in_98, in_99, in_100, in_101, in_102, sh_0, sh_1, sh_10, sh_17, sh_18, sh_20, sh_21, sh_23, sh_25, sh_28, sh_43, sh_58, sh_79, sh_81, sh_83, sh_85, sgk_31, sgi_31, sgk_46, sgi_46, sgk_61, sgi_61, ini_rw, ini_tx, li_0, li_1, li_2, li_3, li_4, li_5, li_6, li_7, li_8, li_9, li_10, li_11, li_12, li_13, li_14, li_15, li_16, li_31, li_32, li_36, li_40, li_48, li_53, li_55, li_56, li_57, li_58, li_60, li_63, li_64, li_80, li_97, li_98, li_99, li_100, li_103, li_104, li_108, li_115, li_116, li_118, li_200, li_256, li_1000, li_2256, nI_m31, nI_sl, nI_bt, nI_or, nI_sub', nI_n9, nI_9n, nI_n1, bo_n0, bo_n1, bo_if, nI_if, nI_if0, nI_if1, if_10, if_11, t_bits, t_bc, t_has, nI_clamp, nI_add, pk_mul, pk_sub, nI_eq, nI_leI, nI_ltI, if_pos, if_neg, uI_at, uI_to, uI_ne, uF_at, uF_ne]
theorem x_gset_out (V : XV h T E) {x : Int32} (hx : p_out x (2 ^ T.2.1)) : fX1_hasGooseSet 28 x h = some (nI 0, h) := by
  have H := V.H
  have b := V.b
  unfold fX1_hasGooseSet fX1_hasGooseSet_0
  by_cases e : x < 0
  · rw [if_pos e]; rfl
  · rw [if_neg e, ck_t (sh_28 H), V.n, show (1 : Int32) = nI 1 from rfl, show (31 : Int32) = nI 31 from rfl, nI_shl (by omega), if_pos (hx.resolve_left e)]; rfl
theorem m_in_in {j n : Nat} (hn : n < 2 ^ 31) (hj : j < n) : gz_b2 (fX9_in (nI j).toInt64 (0 : Int64) (nI n - (1 : Int32)).toInt64 h) (fun y h1 => gz_ck (gz_bo y) (some (y, h1))) = some (nI 1, h) := by
  rw [p_in0_in hn hj, b2_s, ck_t bo_1]; rfl
theorem m_in_out {x : Int32} {n : Nat} (hn : n < 2 ^ 31) (hx : p_out x n) : gz_b2 (fX9_in x.toInt64 (0 : Int64) (nI n - (1 : Int32)).toInt64 h) (fun y h1 => gz_ck (gz_bo y) (some (y, h1))) = some (nI 0, h) := by
  rw [p_in0_out hn hx, b2_s, ck_t bo_0]; rfl
theorem m_goose_in (V : MV h T E) {i : Nat} (hi : i < T.2.1) : fX9_isGoose 85 (nI i) h = some (nI 1, h) := by
  have b := V.b
  unfold fX9_isGoose fX9_isGoose_0
  rw [ck_t (sh_85 V.H), V.n, m_in_in (by omega) hi]
theorem m_goose_out (V : MV h T E) {x : Int32} (hx : p_out x T.2.1) : fX9_isGoose 85 x h = some (nI 0, h) := by
  have b := V.b
  unfold fX9_isGoose fX9_isGoose_0
  rw [ck_t (sh_85 V.H), V.n, m_in_out (by omega) hx]
theorem m_fact_in (V : MV h T E) {i : Nat} (hi : i < T.1) : fX9_isFact 85 (nI i) h = some (nI 1, h) := by
  have b := V.b
  unfold fX9_isFact fX9_isFact_0
  rw [ck_t (sh_85 V.H), V.f, m_in_in (by omega) hi]
theorem m_fact_out (V : MV h T E) {x : Int32} (hx : p_out x T.1) : fX9_isFact 85 x h = some (nI 0, h) := by
  have b := V.b
  unfold fX9_isFact fX9_isFact_0
  rw [ck_t (sh_85 V.H), V.f, m_in_out (by omega) hx]
theorem m_set_in (V : MV h T E) {s : Nat} (hs : s < 2 ^ T.1) : fX9_isSet 85 (nI s) h = some (nI 1, h) := by
  have b := V.b
  have := p2_lt b.1
  unfold fX9_isSet fX9_isSet_0
  rw [ck_t (sh_85 V.H), V.f, show (1 : Int32) <<< (nI T.1 &&& 31) = nI (2 ^ T.1) from nI_shl (by omega), m_in_in (by omega) hs]
theorem m_set_out (V : MV h T E) {x : Int32} (hx : p_out x (2 ^ T.1)) : fX9_isSet 85 x h = some (nI 0, h) := by
  have b := V.b
  have := p2_lt b.1
  unfold fX9_isSet fX9_isSet_0
  rw [ck_t (sh_85 V.H), V.f, show (1 : Int32) <<< (nI T.1 &&& 31) = nI (2 ^ T.1) from nI_shl (by omega), m_in_out (by omega) hx]
theorem m_place_in {p : Nat} (hp : p < 6) : fX9_isPlace (nI p) h = some (nI 1, h) := by
  unfold fX9_isPlace fX9_isPlace_0
  exact m_in_in (n := 6) (by decide) hp
theorem m_place_out {x : Int32} (hx : p_out x 6) : fX9_isPlace x h = some (nI 0, h) := by
  unfold fX9_isPlace fX9_isPlace_0
  exact m_in_out (n := 6) (by decide) hx
theorem m_isGone (V : MV h T E) {i : Nat} (hi : i < T.2.1) : fX9_isGone 85 (nI i) h = some (nI (if (E i).2 = true then 1 else 0), h) := by
  have H := V.H
  have b := V.b
  have := gb_lt (E := E) T.2.1 b.2
  unfold fX9_isGone fX9_isGone_0
  simp (disch := first | assumption | omega | rfl) only [V.gb, ck_1, br_s, b2_s, bi_s, lt_d, bo_0, bo_1, lt_d, uI_1, uI_R, uI_L, uF_1, uF_R, uF_L, uL_1, uL_I, uL_R, uR_1, uR_I, uR_L, inb_uI, inb_uF, inb_uL, inb_uR, len_uI, len_uF, sh_uI, sh_uF, sh_uL, sh_uR, rf_0_0, rf_0_1, rf_0_2, rf_0_3, rf_0_4, rf_0_5, rf_0_6, rf_0_7, rf_0_8, rf_0_9, rf_0_12, rf_0_13, rf_0_14, rf_0_15, rf_0_16, rf_0_17, rf_1_1, rf_1_2, rf_10_1, rf_10_2, rf_18_0, rf_21_0, rf_23_0, rf_25_0, rf_27_0, rf_27_1, rf_27_2, rf_79_0, rf_81_0, rf_83_0, rf_28_0, rf_28_1, rf_31_0, rf_33_0, rf_35_0, rf_37_0, rf_39_0, rf_41_0, rf_43_0, rf_43_1, rf_46_0, rf_48_0, rf_50_0, rf_52_0, rf_54_0, rf_56_0, rf_58_0, rf_58_1, rf_61_0, rf_63_0, rf_65_0, rf_67_0, rf_69_0, rf_71_0, rf_85_0, rf_85_2, rf_85_4, rf_85_5, rf_85_6, rf_85_7, rf_85_8, rf_85_9, rf_85_10, rf_85_15, rf_85_19, rf_85_21, rf_85_22, rf_85_23, rf_85_26, rf_85_27, rf_85_28, rf_2, rf_11, rf_30, rf_45, rf_60, sgr_31, sgr_46, sgr_61, in_2, in_9, in_11, in_16, in_19, in_22, in_24, in_26, in_27, in_29, in_30, in_44, in_45, in_59, in_60, in_73, in_74, in_75, in_76, in_77, in_78, in_80, in_82, in_84, in_86, in_87, in_88, in_89, in_90, in_91, in_92, in_93, in_94, in_95, in_96, in_97, in_98, in_99, in_100, in_101, in_102, sh_0, sh_1, sh_10, sh_17, sh_18, sh_20, sh_21, sh_23, sh_25, sh_28, sh_43, sh_58, sh_79, sh_81, sh_83, sh_85, sgk_31, sgi_31, sgk_46, sgi_46, sgk_61, sgi_61, ini_rw, ini_tx, li_0, li_1, li_2, li_3, li_4, li_5, li_6, li_7, li_8, li_9, li_10, li_11, li_12, li_13, li_14, li_15, li_16, li_31, li_32, li_36, li_40, li_48, li_53, li_55, li_56, li_57, li_58, li_60, li_63, li_64, li_80, li_97, li_98, li_99, li_100, li_103, li_104, li_108, li_115, li_116, li_118, li_200, li_256, li_1000, li_2256, nI_m31, nI_sl, nI_bt, nI_or, nI_sub', nI_n9, nI_9n, nI_n1, bo_n0, bo_n1, bo_if, nI_if, nI_if0, nI_if1, if_10, if_11, t_bits, t_bc, t_has, nI_clamp, nI_add, pk_mul, pk_sub, nI_eq, nI_leI, nI_ltI, if_pos, if_neg, uI_at, uI_to, uI_ne, uF_at, uF_ne, gb_bit hi]
theorem m_factOf (V : MV h T E) {i k : Nat} (hi : i < T.2.1) (hk : k < (E i).1.length) : fX9_factOf 85 (nI i) (nI k) h = some (nI ((E i).1.getD k 0), h) := by
  have H := V.H
  have b := V.b
  have bi := V.bi i hi
  unfold fX9_factOf fX9_factOf_0
  simp (disch := first | assumption | omega | rfl) only [V.fc, ck_1, br_s, b2_s, bi_s, lt_d, bo_0, bo_1, lt_d, uI_1, uI_R, uI_L, uF_1, uF_R, uF_L, uL_1, uL_I, uL_R, uR_1, uR_I, uR_L, inb_uI, inb_uF, inb_uL, inb_uR, len_uI, len_uF, sh_uI, sh_uF, sh_uL, sh_uR, rf_0_0, rf_0_1, rf_0_2, rf_0_3, rf_0_4, rf_0_5, rf_0_6, rf_0_7, rf_0_8, rf_0_9, rf_0_12, rf_0_13, rf_0_14, rf_0_15, rf_0_16, rf_0_17, rf_1_1, rf_1_2, rf_10_1, rf_10_2, rf_18_0, rf_21_0, rf_23_0, rf_25_0, rf_27_0, rf_27_1, rf_27_2, rf_79_0, rf_81_0, rf_83_0, rf_28_0, rf_28_1, rf_31_0, rf_33_0, rf_35_0, rf_37_0, rf_39_0, rf_41_0, rf_43_0, rf_43_1, rf_46_0, rf_48_0, rf_50_0, rf_52_0, rf_54_0, rf_56_0, rf_58_0, rf_58_1, rf_61_0, rf_63_0, rf_65_0, rf_67_0, rf_69_0, rf_71_0, rf_85_0, rf_85_2, rf_85_4, rf_85_5, rf_85_6, rf_85_7, rf_85_8, rf_85_9, rf_85_10, rf_85_15, rf_85_19, rf_85_21, rf_85_22, rf_85_23, rf_85_26, rf_85_27, rf_85_28, rf_2, rf_11, rf_30, rf_45, rf_60, sgr_31, sgr_46, sgr_61, in_2, in_9, in_11, in_16, in_19, in_22, in_24, in_26, in_27, in_29, in_30, in_44, in_45, in_59, in_60, in_73, in_74, in_75, in_76, in_77, in_78, in_80, in_82, in_84, in_86, in_87, in_88, in_89, in_90, in_91, in_92, in_93, in_94, in_95, in_96, in_97, in_98, in_99, in_100, in_101, in_102, sh_0, sh_1, sh_10, sh_17, sh_18, sh_20, sh_21, sh_23, sh_25, sh_28, sh_43, sh_58, sh_79, sh_81, sh_83, sh_85, sgk_31, sgi_31, sgk_46, sgi_46, sgk_61, sgi_61, ini_rw, ini_tx, li_0, li_1, li_2, li_3, li_4, li_5, li_6, li_7, li_8, li_9, li_10, li_11, li_12, li_13, li_14, li_15, li_16, li_31, li_32, li_36, li_40, li_48, li_53, li_55, li_56, li_57, li_58, li_60, li_63, li_64, li_80, li_97, li_98, li_99, li_100, li_103, li_104, li_108, li_115, li_116, li_118, li_200, li_256, li_1000, li_2256, nI_m31, nI_sl, nI_bt, nI_or, nI_sub', nI_n9, nI_9n, nI_n1, bo_n0, bo_n1, bo_if, nI_if, nI_if0, nI_if1, if_10, if_11, t_bits, t_bc, t_has, nI_clamp, nI_add, pk_mul, pk_sub, nI_eq, nI_leI, nI_ltI, if_pos, if_neg, uI_at, uI_to, uI_ne, uF_at, uF_ne]
end
end
