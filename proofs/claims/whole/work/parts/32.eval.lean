/-! PURE: rows for the evaluator (printed by wip/gen/ev.py) -/
section
variable {h : gz_H} {j : Nat}
theorem rf_0_0 (H : gz_La h) : h.2.2.2 0 0 = some 1 := H.rf 0 0 1 (by decide)
theorem rf_0_1 (H : gz_La h) : h.2.2.2 0 1 = some 10 := H.rf 0 1 10 (by decide)
theorem rf_0_2 (H : gz_La h) : h.2.2.2 0 2 = some 17 := H.rf 0 2 17 (by decide)
theorem rf_0_3 (H : gz_La h) : h.2.2.2 0 3 = some 18 := H.rf 0 3 18 (by decide)
theorem rf_0_4 (H : gz_La h) : h.2.2.2 0 4 = some 20 := H.rf 0 4 20 (by decide)
theorem rf_0_5 (H : gz_La h) : h.2.2.2 0 5 = some 21 := H.rf 0 5 21 (by decide)
theorem rf_0_6 (H : gz_La h) : h.2.2.2 0 6 = some 23 := H.rf 0 6 23 (by decide)
theorem rf_0_7 (H : gz_La h) : h.2.2.2 0 7 = some 25 := H.rf 0 7 25 (by decide)
theorem rf_0_8 (H : gz_La h) : h.2.2.2 0 8 = some 27 := H.rf 0 8 27 (by decide)
theorem rf_0_9 (H : gz_La h) : h.2.2.2 0 9 = some 28 := H.rf 0 9 28 (by decide)
theorem rf_0_12 (H : gz_La h) : h.2.2.2 0 12 = some 73 := H.rf 0 12 73 (by decide)
theorem rf_0_13 (H : gz_La h) : h.2.2.2 0 13 = some 74 := H.rf 0 13 74 (by decide)
theorem rf_0_14 (H : gz_La h) : h.2.2.2 0 14 = some 75 := H.rf 0 14 75 (by decide)
theorem rf_0_15 (H : gz_La h) : h.2.2.2 0 15 = some 76 := H.rf 0 15 76 (by decide)
theorem rf_0_16 (H : gz_La h) : h.2.2.2 0 16 = some 77 := H.rf 0 16 77 (by decide)
theorem rf_0_17 (H : gz_La h) : h.2.2.2 0 17 = some 78 := H.rf 0 17 78 (by decide)
theorem rf_1_1 (H : gz_La h) : h.2.2.2 1 1 = some 2 := H.rf 1 1 2 (by decide)
theorem rf_1_2 (H : gz_La h) : h.2.2.2 1 2 = some 9 := H.rf 1 2 9 (by decide)
theorem rf_10_1 (H : gz_La h) : h.2.2.2 10 1 = some 11 := H.rf 10 1 11 (by decide)
theorem rf_10_2 (H : gz_La h) : h.2.2.2 10 2 = some 16 := H.rf 10 2 16 (by decide)
theorem rf_18_0 (H : gz_La h) : h.2.2.2 18 0 = some 19 := H.rf 18 0 19 (by decide)
theorem rf_21_0 (H : gz_La h) : h.2.2.2 21 0 = some 22 := H.rf 21 0 22 (by decide)
theorem rf_23_0 (H : gz_La h) : h.2.2.2 23 0 = some 24 := H.rf 23 0 24 (by decide)
theorem rf_25_0 (H : gz_La h) : h.2.2.2 25 0 = some 26 := H.rf 25 0 26 (by decide)
theorem rf_79_0 (H : gz_La h) : h.2.2.2 79 0 = some 80 := H.rf 79 0 80 (by decide)
theorem rf_81_0 (H : gz_La h) : h.2.2.2 81 0 = some 82 := H.rf 81 0 82 (by decide)
theorem rf_83_0 (H : gz_La h) : h.2.2.2 83 0 = some 84 := H.rf 83 0 84 (by decide)
theorem rf_28_0 (H : gz_La h) : h.2.2.2 28 0 = some 29 := H.rf 28 0 29 (by decide)
theorem rf_28_1 (H : gz_La h) : h.2.2.2 28 1 = some 30 := H.rf 28 1 30 (by decide)
theorem rf_31_0 (H : gz_La h) : h.2.2.2 31 0 = some 32 := H.rf 31 0 32 (by decide)
theorem rf_33_0 (H : gz_La h) : h.2.2.2 33 0 = some 34 := H.rf 33 0 34 (by decide)
theorem rf_35_0 (H : gz_La h) : h.2.2.2 35 0 = some 36 := H.rf 35 0 36 (by decide)
theorem rf_37_0 (H : gz_La h) : h.2.2.2 37 0 = some 38 := H.rf 37 0 38 (by decide)
theorem rf_39_0 (H : gz_La h) : h.2.2.2 39 0 = some 40 := H.rf 39 0 40 (by decide)
theorem rf_41_0 (H : gz_La h) : h.2.2.2 41 0 = some 42 := H.rf 41 0 42 (by decide)
theorem rf_43_0 (H : gz_La h) : h.2.2.2 43 0 = some 44 := H.rf 43 0 44 (by decide)
theorem rf_43_1 (H : gz_La h) : h.2.2.2 43 1 = some 45 := H.rf 43 1 45 (by decide)
theorem rf_46_0 (H : gz_La h) : h.2.2.2 46 0 = some 47 := H.rf 46 0 47 (by decide)
theorem rf_48_0 (H : gz_La h) : h.2.2.2 48 0 = some 49 := H.rf 48 0 49 (by decide)
theorem rf_50_0 (H : gz_La h) : h.2.2.2 50 0 = some 51 := H.rf 50 0 51 (by decide)
theorem rf_52_0 (H : gz_La h) : h.2.2.2 52 0 = some 53 := H.rf 52 0 53 (by decide)
theorem rf_54_0 (H : gz_La h) : h.2.2.2 54 0 = some 55 := H.rf 54 0 55 (by decide)
theorem rf_56_0 (H : gz_La h) : h.2.2.2 56 0 = some 57 := H.rf 56 0 57 (by decide)
theorem rf_58_0 (H : gz_La h) : h.2.2.2 58 0 = some 59 := H.rf 58 0 59 (by decide)
theorem rf_58_1 (H : gz_La h) : h.2.2.2 58 1 = some 60 := H.rf 58 1 60 (by decide)
theorem rf_61_0 (H : gz_La h) : h.2.2.2 61 0 = some 62 := H.rf 61 0 62 (by decide)
theorem rf_63_0 (H : gz_La h) : h.2.2.2 63 0 = some 64 := H.rf 63 0 64 (by decide)
theorem rf_65_0 (H : gz_La h) : h.2.2.2 65 0 = some 66 := H.rf 65 0 66 (by decide)
theorem rf_67_0 (H : gz_La h) : h.2.2.2 67 0 = some 68 := H.rf 67 0 68 (by decide)
theorem rf_69_0 (H : gz_La h) : h.2.2.2 69 0 = some 70 := H.rf 69 0 70 (by decide)
theorem rf_71_0 (H : gz_La h) : h.2.2.2 71 0 = some 72 := H.rf 71 0 72 (by decide)
theorem rf_85_0 (H : gz_La h) : h.2.2.2 85 0 = some 86 := H.rf 85 0 86 (by decide)
theorem rf_85_2 (H : gz_La h) : h.2.2.2 85 2 = some 87 := H.rf 85 2 87 (by decide)
theorem rf_85_4 (H : gz_La h) : h.2.2.2 85 4 = some 88 := H.rf 85 4 88 (by decide)
theorem rf_85_5 (H : gz_La h) : h.2.2.2 85 5 = some 89 := H.rf 85 5 89 (by decide)
theorem rf_85_6 (H : gz_La h) : h.2.2.2 85 6 = some 90 := H.rf 85 6 90 (by decide)
theorem rf_85_7 (H : gz_La h) : h.2.2.2 85 7 = some 91 := H.rf 85 7 91 (by decide)
theorem rf_85_8 (H : gz_La h) : h.2.2.2 85 8 = some 92 := H.rf 85 8 92 (by decide)
theorem rf_85_9 (H : gz_La h) : h.2.2.2 85 9 = some 93 := H.rf 85 9 93 (by decide)
theorem rf_85_10 (H : gz_La h) : h.2.2.2 85 10 = some 94 := H.rf 85 10 94 (by decide)
theorem rf_85_15 (H : gz_La h) : h.2.2.2 85 15 = some 95 := H.rf 85 15 95 (by decide)
theorem rf_85_19 (H : gz_La h) : h.2.2.2 85 19 = some 96 := H.rf 85 19 96 (by decide)
theorem rf_85_21 (H : gz_La h) : h.2.2.2 85 21 = some 97 := H.rf 85 21 97 (by decide)
theorem rf_85_22 (H : gz_La h) : h.2.2.2 85 22 = some 98 := H.rf 85 22 98 (by decide)
theorem rf_85_23 (H : gz_La h) : h.2.2.2 85 23 = some 99 := H.rf 85 23 99 (by decide)
theorem rf_85_26 (H : gz_La h) : h.2.2.2 85 26 = some 100 := H.rf 85 26 100 (by decide)
theorem rf_85_27 (H : gz_La h) : h.2.2.2 85 27 = some 101 := H.rf 85 27 101 (by decide)
theorem rf_85_28 (H : gz_La h) : h.2.2.2 85 28 = some 102 := H.rf 85 28 102 (by decide)
theorem rf_2 (H : gz_La h) (hj : j < 6) : h.2.2.2 2 j = some (3 + j) := by
  match j, hj with
  | 0, _ => exact H.rf 2 0 3 (by decide)
  | 1, _ => exact H.rf 2 1 4 (by decide)
  | 2, _ => exact H.rf 2 2 5 (by decide)
  | 3, _ => exact H.rf 2 3 6 (by decide)
  | 4, _ => exact H.rf 2 4 7 (by decide)
  | 5, _ => exact H.rf 2 5 8 (by decide)
  | j + 6, hj => exact absurd hj (by omega)
theorem rf_11 (H : gz_La h) (hj : j < 4) : h.2.2.2 11 j = some (12 + j) := by
  match j, hj with
  | 0, _ => exact H.rf 11 0 12 (by decide)
  | 1, _ => exact H.rf 11 1 13 (by decide)
  | 2, _ => exact H.rf 11 2 14 (by decide)
  | 3, _ => exact H.rf 11 3 15 (by decide)
  | j + 4, hj => exact absurd hj (by omega)
theorem rf_30 (H : gz_La h) (hj : j < 6) : h.2.2.2 30 j = some (31 + 2 * j) := by
  match j, hj with
  | 0, _ => exact H.rf 30 0 31 (by decide)
  | 1, _ => exact H.rf 30 1 33 (by decide)
  | 2, _ => exact H.rf 30 2 35 (by decide)
  | 3, _ => exact H.rf 30 3 37 (by decide)
  | 4, _ => exact H.rf 30 4 39 (by decide)
  | 5, _ => exact H.rf 30 5 41 (by decide)
  | j + 6, hj => exact absurd hj (by omega)
theorem rf_45 (H : gz_La h) (hj : j < 6) : h.2.2.2 45 j = some (46 + 2 * j) := by
  match j, hj with
  | 0, _ => exact H.rf 45 0 46 (by decide)
  | 1, _ => exact H.rf 45 1 48 (by decide)
  | 2, _ => exact H.rf 45 2 50 (by decide)
  | 3, _ => exact H.rf 45 3 52 (by decide)
  | 4, _ => exact H.rf 45 4 54 (by decide)
  | 5, _ => exact H.rf 45 5 56 (by decide)
  | j + 6, hj => exact absurd hj (by omega)
theorem rf_60 (H : gz_La h) (hj : j < 6) : h.2.2.2 60 j = some (61 + 2 * j) := by
  match j, hj with
  | 0, _ => exact H.rf 60 0 61 (by decide)
  | 1, _ => exact H.rf 60 1 63 (by decide)
  | 2, _ => exact H.rf 60 2 65 (by decide)
  | 3, _ => exact H.rf 60 3 67 (by decide)
  | 4, _ => exact H.rf 60 4 69 (by decide)
  | 5, _ => exact H.rf 60 5 71 (by decide)
  | j + 6, hj => exact absurd hj (by omega)
theorem rf_27 (H : gz_La h) (hj : j < 3) : h.2.2.2 27 j = some (79 + 2 * j) := by
  match j, hj with
  | 0, _ => exact H.rf 27 0 79 (by decide)
  | 1, _ => exact H.rf 27 1 81 (by decide)
  | 2, _ => exact H.rf 27 2 83 (by decide)
  | j + 3, hj => exact absurd hj (by omega)
theorem in_2 (H : gz_La h) (hj : j < 6) : gz_inb h 2 13 (nI j) = true := inb_nI (H.sh rfl) hj (by decide)
theorem in_9 (H : gz_La h) (hj : j < 6) : gz_inb h 9 10 (nI j) = true := inb_nI (H.sh rfl) hj (by decide)
theorem ln_9 (H : gz_La h) : gz_len h 9 = some (nI 6) := len_s (H.sh rfl) (by decide)
theorem in_11 (H : gz_La h) (hj : j < 4) : gz_inb h 11 13 (nI j) = true := inb_nI (H.sh rfl) hj (by decide)
theorem in_16 (H : gz_La h) (hj : j < 4) : gz_inb h 16 10 (nI j) = true := inb_nI (H.sh rfl) hj (by decide)
theorem ln_16 (H : gz_La h) : gz_len h 16 = some (nI 4) := len_s (H.sh rfl) (by decide)
theorem in_19 (H : gz_La h) (hj : j < 6) : gz_inb h 19 10 (nI j) = true := inb_nI (H.sh rfl) hj (by decide)
theorem ln_19 (H : gz_La h) : gz_len h 19 = some (nI 6) := len_s (H.sh rfl) (by decide)
theorem in_22 (H : gz_La h) (hj : j < 6) : gz_inb h 22 10 (nI j) = true := inb_nI (H.sh rfl) hj (by decide)
theorem ln_22 (H : gz_La h) : gz_len h 22 = some (nI 6) := len_s (H.sh rfl) (by decide)
theorem in_24 (H : gz_La h) (hj : j < 8) : gz_inb h 24 10 (nI j) = true := inb_nI (H.sh rfl) hj (by decide)
theorem ln_24 (H : gz_La h) : gz_len h 24 = some (nI 8) := len_s (H.sh rfl) (by decide)
theorem in_26 (H : gz_La h) (hj : j < 40) : gz_inb h 26 10 (nI j) = true := inb_nI (H.sh rfl) hj (by decide)
theorem ln_26 (H : gz_La h) : gz_len h 26 = some (nI 40) := len_s (H.sh rfl) (by decide)
theorem in_27 (H : gz_La h) (hj : j < 3) : gz_inb h 27 12 (nI j) = true := inb_nI (H.sh rfl) hj (by decide)
theorem in_29 (H : gz_La h) (hj : j < 8) : gz_inb h 29 10 (nI j) = true := inb_nI (H.sh rfl) hj (by decide)
theorem ln_29 (H : gz_La h) : gz_len h 29 = some (nI 8) := len_s (H.sh rfl) (by decide)
theorem in_30 (H : gz_La h) (hj : j < 6) : gz_inb h 30 11 (nI j) = true := inb_nI (H.sh rfl) hj (by decide)
theorem in_44 (H : gz_La h) (hj : j < 8) : gz_inb h 44 10 (nI j) = true := inb_nI (H.sh rfl) hj (by decide)
theorem ln_44 (H : gz_La h) : gz_len h 44 = some (nI 8) := len_s (H.sh rfl) (by decide)
theorem in_45 (H : gz_La h) (hj : j < 6) : gz_inb h 45 11 (nI j) = true := inb_nI (H.sh rfl) hj (by decide)
theorem in_59 (H : gz_La h) (hj : j < 8) : gz_inb h 59 10 (nI j) = true := inb_nI (H.sh rfl) hj (by decide)
theorem ln_59 (H : gz_La h) : gz_len h 59 = some (nI 8) := len_s (H.sh rfl) (by decide)
theorem in_60 (H : gz_La h) (hj : j < 6) : gz_inb h 60 11 (nI j) = true := inb_nI (H.sh rfl) hj (by decide)
theorem in_73 (H : gz_La h) (hj : j < 6) : gz_inb h 73 10 (nI j) = true := inb_nI (H.sh rfl) hj (by decide)
theorem ln_73 (H : gz_La h) : gz_len h 73 = some (nI 6) := len_s (H.sh rfl) (by decide)
theorem in_74 (H : gz_La h) (hj : j < 6) : gz_inb h 74 10 (nI j) = true := inb_nI (H.sh rfl) hj (by decide)
theorem ln_74 (H : gz_La h) : gz_len h 74 = some (nI 6) := len_s (H.sh rfl) (by decide)
theorem in_75 (H : gz_La h) (hj : j < 36) : gz_inb h 75 10 (nI j) = true := inb_nI (H.sh rfl) hj (by decide)
theorem ln_75 (H : gz_La h) : gz_len h 75 = some (nI 36) := len_s (H.sh rfl) (by decide)
theorem in_76 (H : gz_La h) (hj : j < 256) : gz_inb h 76 10 (nI j) = true := inb_nI (H.sh rfl) hj (by decide)
theorem ln_76 (H : gz_La h) : gz_len h 76 = some (nI 256) := len_s (H.sh rfl) (by decide)
theorem in_77 (H : gz_La h) (hj : j < 8) : gz_inb h 77 10 (nI j) = true := inb_nI (H.sh rfl) hj (by decide)
theorem ln_77 (H : gz_La h) : gz_len h 77 = some (nI 8) := len_s (H.sh rfl) (by decide)
theorem in_78 (H : gz_La h) (hj : j < 8) : gz_inb h 78 10 (nI j) = true := inb_nI (H.sh rfl) hj (by decide)
theorem ln_78 (H : gz_La h) : gz_len h 78 = some (nI 8) := len_s (H.sh rfl) (by decide)
theorem in_80 (H : gz_La h) (hj : j < 40) : gz_inb h 80 10 (nI j) = true := inb_nI (H.sh rfl) hj (by decide)
theorem ln_80 (H : gz_La h) : gz_len h 80 = some (nI 40) := len_s (H.sh rfl) (by decide)
theorem in_82 (H : gz_La h) (hj : j < 40) : gz_inb h 82 10 (nI j) = true := inb_nI (H.sh rfl) hj (by decide)
theorem ln_82 (H : gz_La h) : gz_len h 82 = some (nI 40) := len_s (H.sh rfl) (by decide)
theorem in_84 (H : gz_La h) (hj : j < 40) : gz_inb h 84 10 (nI j) = true := inb_nI (H.sh rfl) hj (by decide)
theorem ln_84 (H : gz_La h) : gz_len h 84 = some (nI 40) := len_s (H.sh rfl) (by decide)
theorem in_86 (H : gz_La h) (hj : j < 9024) : gz_inb h 86 10 (nI j) = true := inb_nI (H.sh rfl) hj (by decide)
theorem ln_86 (H : gz_La h) : gz_len h 86 = some (nI 9024) := len_s (H.sh rfl) (by decide)
theorem in_87 (H : gz_La h) (hj : j < 8) : gz_inb h 87 10 (nI j) = true := inb_nI (H.sh rfl) hj (by decide)
theorem ln_87 (H : gz_La h) : gz_len h 87 = some (nI 8) := len_s (H.sh rfl) (by decide)
theorem in_88 (H : gz_La h) (hj : j < 6) : gz_inb h 88 10 (nI j) = true := inb_nI (H.sh rfl) hj (by decide)
theorem ln_88 (H : gz_La h) : gz_len h 88 = some (nI 6) := len_s (H.sh rfl) (by decide)
theorem in_89 (H : gz_La h) (hj : j < 6) : gz_inb h 89 10 (nI j) = true := inb_nI (H.sh rfl) hj (by decide)
theorem ln_89 (H : gz_La h) : gz_len h 89 = some (nI 6) := len_s (H.sh rfl) (by decide)
theorem in_90 (H : gz_La h) (hj : j < 6) : gz_inb h 90 10 (nI j) = true := inb_nI (H.sh rfl) hj (by decide)
theorem ln_90 (H : gz_La h) : gz_len h 90 = some (nI 6) := len_s (H.sh rfl) (by decide)
theorem in_91 (H : gz_La h) (hj : j < 6) : gz_inb h 91 10 (nI j) = true := inb_nI (H.sh rfl) hj (by decide)
theorem ln_91 (H : gz_La h) : gz_len h 91 = some (nI 6) := len_s (H.sh rfl) (by decide)
theorem in_92 (H : gz_La h) (hj : j < 240) : gz_inb h 92 10 (nI j) = true := inb_nI (H.sh rfl) hj (by decide)
theorem ln_92 (H : gz_La h) : gz_len h 92 = some (nI 240) := len_s (H.sh rfl) (by decide)
theorem in_93 (H : gz_La h) (hj : j < 4) : gz_inb h 93 10 (nI j) = true := inb_nI (H.sh rfl) hj (by decide)
theorem ln_93 (H : gz_La h) : gz_len h 93 = some (nI 4) := len_s (H.sh rfl) (by decide)
theorem in_94 (H : gz_La h) (hj : j < 320) : gz_inb h 94 10 (nI j) = true := inb_nI (H.sh rfl) hj (by decide)
theorem ln_94 (H : gz_La h) : gz_len h 94 = some (nI 320) := len_s (H.sh rfl) (by decide)
theorem in_95 (H : gz_La h) (hj : j < 6) : gz_inb h 95 10 (nI j) = true := inb_nI (H.sh rfl) hj (by decide)
theorem ln_95 (H : gz_La h) : gz_len h 95 = some (nI 6) := len_s (H.sh rfl) (by decide)
theorem in_96 (H : gz_La h) (hj : j < 8) : gz_inb h 96 10 (nI j) = true := inb_nI (H.sh rfl) hj (by decide)
theorem ln_96 (H : gz_La h) : gz_len h 96 = some (nI 8) := len_s (H.sh rfl) (by decide)
theorem in_97 (H : gz_La h) (hj : j < 18) : gz_inb h 97 10 (nI j) = true := inb_nI (H.sh rfl) hj (by decide)
theorem ln_97 (H : gz_La h) : gz_len h 97 = some (nI 18) := len_s (H.sh rfl) (by decide)
theorem in_98 (H : gz_La h) (hj : j < 6) : gz_inb h 98 10 (nI j) = true := inb_nI (H.sh rfl) hj (by decide)
theorem ln_98 (H : gz_La h) : gz_len h 98 = some (nI 6) := len_s (H.sh rfl) (by decide)
theorem in_99 (H : gz_La h) (hj : j < 48) : gz_inb h 99 10 (nI j) = true := inb_nI (H.sh rfl) hj (by decide)
theorem ln_99 (H : gz_La h) : gz_len h 99 = some (nI 48) := len_s (H.sh rfl) (by decide)
theorem in_100 (H : gz_La h) (hj : j < 8) : gz_inb h 100 10 (nI j) = true := inb_nI (H.sh rfl) hj (by decide)
theorem ln_100 (H : gz_La h) : gz_len h 100 = some (nI 8) := len_s (H.sh rfl) (by decide)
theorem in_101 (H : gz_La h) (hj : j < 36) : gz_inb h 101 10 (nI j) = true := inb_nI (H.sh rfl) hj (by decide)
theorem ln_101 (H : gz_La h) : gz_len h 101 = some (nI 36) := len_s (H.sh rfl) (by decide)
theorem in_102 (H : gz_La h) (hj : j < 256) : gz_inb h 102 10 (nI j) = true := inb_nI (H.sh rfl) hj (by decide)
theorem ln_102 (H : gz_La h) : gz_len h 102 = some (nI 256) := len_s (H.sh rfl) (by decide)
theorem sh_0 (H : gz_La h) : gz_sh h 0 8 19 = true := H.ck rfl
theorem sh_1 (H : gz_La h) : gz_sh h 1 7 3 = true := H.ck rfl
theorem sh_10 (H : gz_La h) : gz_sh h 10 7 3 = true := H.ck rfl
theorem sh_17 (H : gz_La h) : gz_sh h 17 5 4 = true := H.ck rfl
theorem sh_18 (H : gz_La h) : gz_sh h 18 0 2 = true := H.ck rfl
theorem sh_20 (H : gz_La h) : gz_sh h 20 4 2 = true := H.ck rfl
theorem sh_21 (H : gz_La h) : gz_sh h 21 6 2 = true := H.ck rfl
theorem sh_23 (H : gz_La h) : gz_sh h 23 2 6 = true := H.ck rfl
theorem sh_25 (H : gz_La h) : gz_sh h 25 3 2 = true := H.ck rfl
theorem sh_28 (H : gz_La h) : gz_sh h 28 1 4 = true := H.ck rfl
theorem sh_43 (H : gz_La h) : gz_sh h 43 1 4 = true := H.ck rfl
theorem sh_58 (H : gz_La h) : gz_sh h 58 1 4 = true := H.ck rfl
theorem sh_79 (H : gz_La h) : gz_sh h 79 3 2 = true := H.ck rfl
theorem sh_81 (H : gz_La h) : gz_sh h 81 3 2 = true := H.ck rfl
theorem sh_83 (H : gz_La h) : gz_sh h 83 3 2 = true := H.ck rfl
theorem sh_85 (H : gz_La h) : gz_sh h 85 9 29 = true := H.ck rfl
theorem sz_rw (H : gz_La h) (hj : j < 6) : h.1[3 + j]? = some (10, 40) := by
  match j, hj with
  | 0, _ => exact H.sh rfl
  | 1, _ => exact H.sh rfl
  | 2, _ => exact H.sh rfl
  | 3, _ => exact H.sh rfl
  | 4, _ => exact H.sh rfl
  | 5, _ => exact H.sh rfl
  | j + 6, hj => exact absurd hj (by omega)
theorem sz_tx (H : gz_La h) (hj : j < 4) : h.1[12 + j]? = some (10, 80) := by
  match j, hj with
  | 0, _ => exact H.sh rfl
  | 1, _ => exact H.sh rfl
  | 2, _ => exact H.sh rfl
  | 3, _ => exact H.sh rfl
  | j + 4, hj => exact absurd hj (by omega)
theorem sg_31 (H : gz_La h) (hj : j < 6) : h.1[31 + 2 * j]? = some (2, 6) ∧ h.1[31 + 2 * j + 1]? = some (10, 8) ∧ h.2.2.2 (31 + 2 * j) 0 = some (31 + 2 * j + 1) := by
  match j, hj with
  | 0, _ => exact ⟨H.sh rfl, H.sh rfl, H.rf 31 0 32 (by decide)⟩
  | 1, _ => exact ⟨H.sh rfl, H.sh rfl, H.rf 33 0 34 (by decide)⟩
  | 2, _ => exact ⟨H.sh rfl, H.sh rfl, H.rf 35 0 36 (by decide)⟩
  | 3, _ => exact ⟨H.sh rfl, H.sh rfl, H.rf 37 0 38 (by decide)⟩
  | 4, _ => exact ⟨H.sh rfl, H.sh rfl, H.rf 39 0 40 (by decide)⟩
  | 5, _ => exact ⟨H.sh rfl, H.sh rfl, H.rf 41 0 42 (by decide)⟩
  | j + 6, hj => exact absurd hj (by omega)
theorem sgk_31 (H : gz_La h) (hj : j < 6) : gz_sh h (31 + 2 * j) 2 6 = true := sh_t (sg_31 H hj).1
theorem sgr_31 (H : gz_La h) (hj : j < 6) : h.2.2.2 (31 + 2 * j) 0 = some (31 + 2 * j + 1) := (sg_31 H hj).2.2
theorem sgi_31 {k : Nat} (H : gz_La h) (hj : j < 6) (hk : k < 8) : gz_inb h (31 + 2 * j + 1) 10 (nI k) = true := inb_nI (sg_31 H hj).2.1 hk (by decide)
theorem sg_46 (H : gz_La h) (hj : j < 6) : h.1[46 + 2 * j]? = some (2, 6) ∧ h.1[46 + 2 * j + 1]? = some (10, 8) ∧ h.2.2.2 (46 + 2 * j) 0 = some (46 + 2 * j + 1) := by
  match j, hj with
  | 0, _ => exact ⟨H.sh rfl, H.sh rfl, H.rf 46 0 47 (by decide)⟩
  | 1, _ => exact ⟨H.sh rfl, H.sh rfl, H.rf 48 0 49 (by decide)⟩
  | 2, _ => exact ⟨H.sh rfl, H.sh rfl, H.rf 50 0 51 (by decide)⟩
  | 3, _ => exact ⟨H.sh rfl, H.sh rfl, H.rf 52 0 53 (by decide)⟩
  | 4, _ => exact ⟨H.sh rfl, H.sh rfl, H.rf 54 0 55 (by decide)⟩
  | 5, _ => exact ⟨H.sh rfl, H.sh rfl, H.rf 56 0 57 (by decide)⟩
  | j + 6, hj => exact absurd hj (by omega)
theorem sgk_46 (H : gz_La h) (hj : j < 6) : gz_sh h (46 + 2 * j) 2 6 = true := sh_t (sg_46 H hj).1
theorem sgr_46 (H : gz_La h) (hj : j < 6) : h.2.2.2 (46 + 2 * j) 0 = some (46 + 2 * j + 1) := (sg_46 H hj).2.2
theorem sgi_46 {k : Nat} (H : gz_La h) (hj : j < 6) (hk : k < 8) : gz_inb h (46 + 2 * j + 1) 10 (nI k) = true := inb_nI (sg_46 H hj).2.1 hk (by decide)
theorem sg_61 (H : gz_La h) (hj : j < 6) : h.1[61 + 2 * j]? = some (2, 6) ∧ h.1[61 + 2 * j + 1]? = some (10, 8) ∧ h.2.2.2 (61 + 2 * j) 0 = some (61 + 2 * j + 1) := by
  match j, hj with
  | 0, _ => exact ⟨H.sh rfl, H.sh rfl, H.rf 61 0 62 (by decide)⟩
  | 1, _ => exact ⟨H.sh rfl, H.sh rfl, H.rf 63 0 64 (by decide)⟩
  | 2, _ => exact ⟨H.sh rfl, H.sh rfl, H.rf 65 0 66 (by decide)⟩
  | 3, _ => exact ⟨H.sh rfl, H.sh rfl, H.rf 67 0 68 (by decide)⟩
  | 4, _ => exact ⟨H.sh rfl, H.sh rfl, H.rf 69 0 70 (by decide)⟩
  | 5, _ => exact ⟨H.sh rfl, H.sh rfl, H.rf 71 0 72 (by decide)⟩
  | j + 6, hj => exact absurd hj (by omega)
theorem sgk_61 (H : gz_La h) (hj : j < 6) : gz_sh h (61 + 2 * j) 2 6 = true := sh_t (sg_61 H hj).1
theorem sgr_61 (H : gz_La h) (hj : j < 6) : h.2.2.2 (61 + 2 * j) 0 = some (61 + 2 * j + 1) := (sg_61 H hj).2.2
theorem sgi_61 {k : Nat} (H : gz_La h) (hj : j < 6) (hk : k < 8) : gz_inb h (61 + 2 * j + 1) 10 (nI k) = true := inb_nI (sg_61 H hj).2.1 hk (by decide)
theorem sl_79 (H : gz_La h) (hj : j < 3) : h.1[79 + 2 * j]? = some (3, 2) ∧ h.1[79 + 2 * j + 1]? = some (10, 40) ∧ h.2.2.2 (79 + 2 * j) 0 = some (79 + 2 * j + 1) := by
  match j, hj with
  | 0, _ => exact ⟨H.sh rfl, H.sh rfl, H.rf 79 0 80 (by decide)⟩
  | 1, _ => exact ⟨H.sh rfl, H.sh rfl, H.rf 81 0 82 (by decide)⟩
  | 2, _ => exact ⟨H.sh rfl, H.sh rfl, H.rf 83 0 84 (by decide)⟩
  | j + 3, hj => exact absurd hj (by omega)
theorem slk_79 (H : gz_La h) (hj : j < 3) : gz_sh h (79 + 2 * j) 3 2 = true := sh_t (sl_79 H hj).1
theorem slr_79 (H : gz_La h) (hj : j < 3) : h.2.2.2 (79 + 2 * j) 0 = some (79 + 2 * j + 1) := (sl_79 H hj).2.2
theorem sli_79 {k : Nat} (H : gz_La h) (hj : j < 3) (hk : k < 40) : gz_inb h (79 + 2 * j + 1) 10 (nI k) = true := inb_nI (sl_79 H hj).2.1 hk (by decide)
theorem ini_rw {k : Nat} (H : gz_La h) (hj : j < 6) (hk : k < 40) : gz_inb h (3 + j) 10 (nI k) = true := inb_nI (sz_rw H hj) hk (by decide)
theorem ini_tx {k : Nat} (H : gz_La h) (hj : j < 4) (hk : k < 80) : gz_inb h (12 + j) 10 (nI k) = true := inb_nI (sz_tx H hj) hk (by decide)
theorem li_0 : (0 : Int32) = nI 0 := rfl
theorem li_1 : (1 : Int32) = nI 1 := rfl
theorem li_2 : (2 : Int32) = nI 2 := rfl
theorem li_3 : (3 : Int32) = nI 3 := rfl
theorem li_4 : (4 : Int32) = nI 4 := rfl
theorem li_5 : (5 : Int32) = nI 5 := rfl
theorem li_6 : (6 : Int32) = nI 6 := rfl
theorem li_7 : (7 : Int32) = nI 7 := rfl
theorem li_8 : (8 : Int32) = nI 8 := rfl
theorem li_9 : (9 : Int32) = nI 9 := rfl
theorem li_10 : (10 : Int32) = nI 10 := rfl
theorem li_11 : (11 : Int32) = nI 11 := rfl
theorem li_12 : (12 : Int32) = nI 12 := rfl
theorem li_13 : (13 : Int32) = nI 13 := rfl
theorem li_14 : (14 : Int32) = nI 14 := rfl
theorem li_15 : (15 : Int32) = nI 15 := rfl
theorem li_16 : (16 : Int32) = nI 16 := rfl
theorem li_31 : (31 : Int32) = nI 31 := rfl
theorem li_32 : (32 : Int32) = nI 32 := rfl
theorem li_36 : (36 : Int32) = nI 36 := rfl
theorem li_40 : (40 : Int32) = nI 40 := rfl
theorem li_48 : (48 : Int32) = nI 48 := rfl
theorem li_53 : (53 : Int32) = nI 53 := rfl
theorem li_55 : (55 : Int32) = nI 55 := rfl
theorem li_56 : (56 : Int32) = nI 56 := rfl
theorem li_57 : (57 : Int32) = nI 57 := rfl
theorem li_58 : (58 : Int32) = nI 58 := rfl
theorem li_60 : (60 : Int32) = nI 60 := rfl
theorem li_63 : (63 : Int32) = nI 63 := rfl
theorem li_64 : (64 : Int32) = nI 64 := rfl
theorem li_80 : (80 : Int32) = nI 80 := rfl
theorem li_97 : (97 : Int32) = nI 97 := rfl
theorem li_98 : (98 : Int32) = nI 98 := rfl
theorem li_99 : (99 : Int32) = nI 99 := rfl
theorem li_100 : (100 : Int32) = nI 100 := rfl
theorem li_103 : (103 : Int32) = nI 103 := rfl
theorem li_104 : (104 : Int32) = nI 104 := rfl
theorem li_108 : (108 : Int32) = nI 108 := rfl
theorem li_115 : (115 : Int32) = nI 115 := rfl
theorem li_116 : (116 : Int32) = nI 116 := rfl
theorem li_118 : (118 : Int32) = nI 118 := rfl
theorem li_200 : (200 : Int32) = nI 200 := rfl
theorem li_256 : (256 : Int32) = nI 256 := rfl
theorem li_1000 : (1000 : Int32) = nI 1000 := rfl
theorem li_2256 : (2256 : Int32) = nI 2256 := rfl
theorem uI_ne {a b k v} (e : ¬ (b = a ∧ j = k)) : (uI h a k v).2.1 b j = h.2.1 b j := by rw [uI_I, if_neg e]
theorem uI_at {a k : Nat} {v : Int32} : (uI h a k v).2.1 a k = v := by rw [uI_I, if_pos ⟨rfl, rfl⟩]
theorem uI_to {a b k : Nat} {v : Int32} (e : b = a ∧ j = k) : (uI h a k v).2.1 b j = v := by rw [uI_I, if_pos e]
theorem uF_ne {a b : Nat} {f : Nat → Int32} (e : ¬ b = a) : (uF h a f).2.1 b j = h.2.1 b j := by rw [uF_I, if_neg e]
theorem uF_at {a : Nat} {f : Nat → Int32} : (uF h a f).2.1 a j = f j := by rw [uF_I, if_pos rfl]
end
/-- a loop that answers r -/
theorem lp {σ β : Type} (F : Nat → Nat → σ → β) (acc : Nat → σ) (n : Nat) (r : β) (fin : ∀ m, F (m + 1) n (acc n) = r) (st : ∀ m i, i < n → F (m + 1) i (acc i) = F m (i + 1) (acc (i + 1))) : ∀ m i, i ≤ n → n < i + m → F m i (acc i) = r := by
  intro m
  induction m with
  | zero => intro i h1 h2; omega
  | succ m ih =>
    intro i h1 h2
    by_cases e : i = n
    · subst e; exact fin m
    · rw [st m i (by omega)]; exact ih (i + 1) (by omega) (by omega)
/-- a loop, by what it keeps -/
theorem lpr {σ β : Type} (F : Nat → Nat → σ → β) (P : Nat → σ → Prop) (n : Nat) (Q : β → Prop) (fin : ∀ m s, P n s → Q (F (m + 1) n s)) (st : ∀ m i s, i < n → P i s → ∃ s', P (i + 1) s' ∧ F (m + 1) i s = F m (i + 1) s') : ∀ m i s, i ≤ n → n < i + m → P i s → Q (F m i s) := by
  intro m
  induction m with
  | zero => intro i s h1 h2; omega
  | succ m ih =>
    intro i s h1 h2 hp
    by_cases e : i = n
    · subst e; exact fin m s hp
    · obtain ⟨s', p', e'⟩ := st m i s (by omega) hp
      rw [e']; exact ih (i + 1) s' (by omega) (by omega) p'
theorem nI_or (a b : Nat) : nI a ||| nI b = nI (a ||| b) := by
  apply Int32.toBitVec_inj.mp
  show BitVec.ofNat 32 a ||| BitVec.ofNat 32 b = BitVec.ofNat 32 (a ||| b)
  exact BitVec.ofNat_or.symm
theorem nI_and (a b : Nat) : nI a &&& nI b = nI (a &&& b) := by
  apply Int32.toBitVec_inj.mp
  show BitVec.ofNat 32 a &&& BitVec.ofNat 32 b = BitVec.ofNat 32 (a &&& b)
  exact BitVec.ofNat_and.symm
theorem nI_xor (a b : Nat) : nI a ^^^ nI b = nI (a ^^^ b) := by
  apply Int32.toBitVec_inj.mp
  show BitVec.ofNat 32 a ^^^ BitVec.ofNat 32 b = BitVec.ofNat 32 (a ^^^ b)
  exact BitVec.ofNat_xor.symm
/-- a without b -/
def sd (a b : Nat) : Nat := a ^^^ (a &&& b)
theorem sd_bit (a b k : Nat) : (sd a b).testBit k = (a.testBit k && !b.testBit k) := by
  unfold sd
  rw [Nat.testBit_xor, Nat.testBit_and]
  cases a.testBit k <;> cases b.testBit k <;> rfl
theorem nI_nand (a b : Nat) : nI a &&& (nI b ^^^ (-1 : Int32)) = nI (sd a b) := by
  unfold sd
  rw [← nI_xor, ← nI_and]
  apply Int32.toBitVec_inj.mp
  show (nI a).toBitVec &&& ((nI b).toBitVec ^^^ (-1 : Int32).toBitVec) = (nI a).toBitVec ^^^ ((nI a).toBitVec &&& (nI b).toBitVec)
  rw [show (-1 : Int32).toBitVec = BitVec.allOnes 32 from rfl]
  ext i hi
  simp only [BitVec.getElem_and, BitVec.getElem_xor, BitVec.getElem_allOnes]
  cases (nI a).toBitVec[i] <;> cases (nI b).toBitVec[i] <;> rfl
theorem nI_shl {k : Nat} (hk : k < 31) : nI 1 <<< (nI k &&& nI 31) = nI (2 ^ k) := by
  have e : nI k &&& nI 31 = nI k := by
    rw [pk_andN (m := nI 31) (by omega) 5 rfl, Nat.mod_eq_of_lt (by omega)]
  rw [e, pk_shlN (nI k) k ?_ (by rw [Nat.one_mul]; exact Nat.pow_lt_pow_right (by decide) (by omega)), Nat.one_mul]
  match k, hk with
  | 0, _ => rfl
  | k + 1, hk =>
    have : ∀ q : Fin 31, ((nI q.1).toBitVec.smod 32).toNat = q.1 := by decide
    exact this ⟨k + 1, hk⟩
theorem nI_m31 {k : Nat} (hk : k < 32) : nI k &&& nI 31 = nI k := by rw [pk_andN (m := nI 31) (by omega) 5 rfl, Nat.mod_eq_of_lt (by omega)]
theorem nI_sl {k : Nat} (hk : k < 31) : nI 1 <<< nI k = nI (2 ^ k) := by rw [← nI_shl hk, nI_m31 (by omega)]
theorem nI_smod {k : Nat} (hk : k < 31) : ((nI k).toBitVec.smod 32).toNat = k := by
  have : ∀ q : Fin 31, ((nI q.1).toBitVec.smod 32).toNat = q.1 := by decide
  exact this ⟨k, hk⟩
/-- a bit of a set -/
theorem nI_bit {a k : Nat} (ha : a < 2 ^ 31) (hk : k < 31) : (nI a >>> (nI k &&& nI 31)) &&& nI 1 = nI (if a.testBit k then 1 else 0) := by
  rw [nI_m31 (by omega), pk_shrN ha (nI k) k (nI_smod hk), nI_and, Nat.and_one_is_mod, Nat.testBit_eq_decide_div_mod_eq]
  by_cases e : a / 2 ^ k % 2 = 1
  · simp [e]
  · have : a / 2 ^ k % 2 = 0 := by omega
    simp [this]

theorem n_dec (x : Int32) : x + (-nI 1) = x - nI 1 := (Int32.sub_eq_add_neg x (nI 1)).symm
theorem n_prd (k : Nat) : nI (k + 1) - nI 1 = nI k := nI_pred k
theorem nI_bt {a k : Nat} (ha : a < 2 ^ 31) (hk : k < 31) : (nI a >>> nI k) &&& nI 1 = nI (if a.testBit k then 1 else 0) := by rw [← nI_bit ha hk, nI_m31 (by omega)]
theorem nI_sub' (a b : Nat) : nI a &&& (nI b ^^^ (-nI 1)) = nI (sd a b) := nI_nand a b
theorem nI_n9 {k : Nat} (hk : k < 2 ^ 31) : (nI k = -nI 9) = False := by
  apply propext
  refine ⟨fun e => ?_, fun e => e.elim⟩
  have q1 := congrArg Int32.toInt e
  rw [nI_toInt hk] at q1
  have q2 : (-nI 9).toInt = -9 := rfl
  omega
theorem nI_9n {k : Nat} (hk : k < 2 ^ 31) : (-nI 9 = nI k) = False := by rw [show (-nI 9 = nI k) = (nI k = -nI 9) from propext eq_comm, nI_n9 hk]
theorem nI_n1 {k : Nat} (hk : k < 2 ^ 31) : (nI k = -nI 1) = False := by
  apply propext
  refine ⟨fun e => ?_, fun e => e.elim⟩
  have q1 := congrArg Int32.toInt e
  rw [nI_toInt hk] at q1
  have q2 : (-nI 1).toInt = -1 := rfl
  omega
theorem bo_n0 : gz_bo (nI 0) = true := rfl
theorem bo_n1 : gz_bo (nI 1) = true := rfl
theorem bo_if {c : Prop} [Decidable c] : gz_bo (nI (if c then 1 else 0)) = true := by by_cases e : c <;> simp [e] <;> rfl
theorem nI_if {c : Prop} [Decidable c] : (if c then nI 1 else nI 0) = nI (if c then 1 else 0) := by by_cases e : c <;> simp [e]
theorem if_10 {c : Prop} [Decidable c] : ((if c then 1 else 0) = 0) = ¬ c := by by_cases e : c <;> simp [e]
theorem if_11 {c : Prop} [Decidable c] : ((if c then 1 else 0) = 1) = c := by by_cases e : c <;> simp [e]
theorem if_lt {c : Prop} [Decidable c] {n : Nat} : (if c then 1 else 0) < n + 2 := by by_cases e : c <;> simp [e]
theorem nI_if0 {c : Prop} [Decidable c] : (nI (if c then 1 else 0) = nI 0) = ¬ c := by by_cases e : c <;> simp [e] <;> decide
theorem nI_if1 {c : Prop} [Decidable c] : (nI (if c then 1 else 0) = nI 1) = c := by by_cases e : c <;> simp [e] <;> decide
/-- or's, sums -/
def fo (g : Nat → Nat) : Nat → Nat
  | 0 => 0
  | n + 1 => fo g n ||| g n
def fs (g : Nat → Nat) : Nat → Nat
  | 0 => 0
  | n + 1 => fs g n + g n
theorem fo_bit {g : Nat → Nat} {k : Nat} : ∀ {n : Nat}, (fo g n).testBit k = true ↔ ∃ i, i < n ∧ (g i).testBit k = true := by
  intro n
  induction n with
  | zero => simp [fo]
  | succ n ih =>
    rw [fo, Nat.testBit_or, Bool.or_eq_true, ih]
    constructor
    · rintro (⟨i, hi, e⟩ | e)
      · exact ⟨i, by omega, e⟩
      · exact ⟨n, by omega, e⟩
    · rintro ⟨i, hi, e⟩
      by_cases q : i = n
      · subst q; exact Or.inr e
      · exact Or.inl ⟨i, by omega, e⟩
theorem fo_lt {g : Nat → Nat} {b : Nat} : ∀ {n : Nat}, (∀ i, i < n → g i < 2 ^ b) → fo g n < 2 ^ b := by
  intro n
  induction n with
  | zero => intro _; exact Nat.two_pow_pos b
  | succ n ih => intro h; exact Nat.or_lt_two_pow (ih fun i hi => h i (by omega)) (h n (by omega))
theorem fo_cg {g g' : Nat → Nat} : ∀ {n : Nat}, (∀ i, i < n → g i = g' i) → fo g n = fo g' n := by
  intro n
  induction n with
  | zero => intro _; rfl
  | succ n ih => intro h; rw [fo, fo, ih fun i hi => h i (by omega), h n (by omega)]
theorem fs_cg {g g' : Nat → Nat} : ∀ {n : Nat}, (∀ i, i < n → g i = g' i) → fs g n = fs g' n := by
  intro n
  induction n with
  | zero => intro _; rfl
  | succ n ih => intro h; rw [fs, fs, ih fun i hi => h i (by omega), h n (by omega)]
theorem fs_le {g : Nat → Nat} {b : Nat} : ∀ {n : Nat}, (∀ i, i < n → g i ≤ b) → fs g n ≤ n * b := by
  intro n
  induction n with
  | zero => intro _; exact Nat.zero_le _
  | succ n ih =>
    intro h
    rw [fs, Nat.succ_mul]
    exact Nat.add_le_add (ih fun i hi => h i (by omega)) (h n (by omega))
theorem bit_ext {a b : Nat} (h : ∀ k, a.testBit k = true ↔ b.testBit k = true) : a = b := by
  apply Nat.eq_of_testBit_eq
  intro k
  have := h k
  cases e1 : a.testBit k <;> cases e2 : b.testBit k <;> simp_all
theorem bit_lt {a b : Nat} (h : ∀ k, a.testBit k = true → k < b) : a < 2 ^ b := by
  apply Nat.lt_of_not_le
  intro hge
  obtain ⟨i, hi, e⟩ := Nat.exists_ge_and_testBit_of_ge_two_pow hge
  exact absurd (h i e) (by omega)
theorem bit_p {f k : Nat} : (2 ^ f).testBit k = true ↔ k = f := by
  rw [Nat.testBit_two_pow]
  simp [eq_comm]
/-- the set of a list of facts -/
def hs (l : List Nat) : Nat := fo (fun k => 2 ^ l.getD k 0) l.length
theorem hs_bit {l : List Nat} {f : Nat} : (hs l).testBit f = true ↔ f ∈ l := by
  unfold hs
  rw [fo_bit]
  constructor
  · rintro ⟨i, hi, e⟩
    rw [bit_p] at e
    rw [e, List.getD_eq_getElem?_getD, List.getElem?_eq_getElem hi]
    exact List.getElem_mem hi
  · intro h
    obtain ⟨i, hi, e⟩ := List.mem_iff_getElem.mp h
    refine ⟨i, hi, ?_⟩
    rw [bit_p, List.getD_eq_getElem?_getD, List.getElem?_eq_getElem hi, ← e]
    rfl
theorem hs_lt {l : List Nat} {b : Nat} (h : ∀ f ∈ l, f < b) : hs l < 2 ^ b := bit_lt fun k e => h k (hs_bit.mp e)
/-- how many -/
def pc (s : Nat) : Nat := fs (fun k => if s.testBit k then 1 else 0) 8
theorem pc_le (s : Nat) : pc s ≤ 8 := fs_le (b := 1) fun i _ => by by_cases e : s.testBit i = true <;> simp [e]
theorem t_bits {h : gz_H} {s : Nat} (hs : s < 2 ^ 31) : fX9_bits (nI s) h = some (nI (pc s), h) := by
  unfold fX9_bits fX9_bits_0
  have := lp (fun m i (x : Int32) => fX9_bits_4 m (nI s) x (nI i) h) (fun i => nI (fs (fun k => if s.testBit k then 1 else 0) i)) 8 (some (nI (pc s), h)) ?_ ?_ gz_fu 0 (by omega) (by show 8 < 0 + 100000; omega)
  · exact this
  · intro m
    rw [fX9_bits_4, if_pos (by decide)]
    rfl
  · intro m i hi
    rw [fX9_bits_4, if_neg (show ¬ (8 : Int32) ≤ nI i from nI_ge hi (by decide)), show (31 : Int32) = nI 31 from rfl, show (1 : Int32) = nI 1 from rfl, nI_bit hs (by omega), nI_add, nI_add]
    rfl
def bcE (x : Int32) : Int32 :=
  let y1 := x - (((x.toUInt32 >>> ((1 : Int32).toUInt32 &&& Int32.toUInt32 31)).toInt32) &&& (1431655765 : Int32))
  let y2 := (y1 &&& (858993459 : Int32)) + (((y1.toUInt32 >>> ((2 : Int32).toUInt32 &&& Int32.toUInt32 31)).toInt32) &&& (858993459 : Int32))
  let y3 := (y2 + ((y2.toUInt32 >>> ((4 : Int32).toUInt32 &&& Int32.toUInt32 31)).toInt32)) &&& (252645135 : Int32)
  let y4 := y3 + ((y3.toUInt32 >>> ((8 : Int32).toUInt32 &&& Int32.toUInt32 31)).toInt32)
  let y5 := y4 + ((y4.toUInt32 >>> ((16 : Int32).toUInt32 &&& Int32.toUInt32 31)).toInt32)
  y5 &&& (63 : Int32)
theorem bcE_all : ∀ s : Fin 256, bcE (nI s.1) = nI (pc s.1) := by decide +kernel
theorem t_bc {h : gz_H} {s : Nat} (hs : s < 256) : fJ6_bitCount_0f7a4 (nI s) h = some (nI (pc s), h) := by
  rw [← bcE_all ⟨s, hs⟩]
  rfl
/-- the first of a set -/
def fst1 (s : Nat) : Nat := if s.testBit 0 then 0 else if s.testBit 1 then 1 else if s.testBit 2 then 2 else if s.testBit 3 then 3 else if s.testBit 4 then 4 else if s.testBit 5 then 5 else if s.testBit 6 then 6 else 7
def ntE (x0 : Int32) : Int32 :=
  let a := (x0 ^^^ (-1 : Int32)) &&& (x0 - (1 : Int32))
  let f74 := fun (x0 x1 : Int32) => x1 + ((x0.toUInt32 >>> ((1 : Int32).toUInt32 &&& Int32.toUInt32 31)).toInt32)
  let f62 := fun (x0 x1 : Int32) => if x0 ≤ (4 : Int32) then f74 x0 x1 else f74 ((x0.toUInt32 >>> ((2 : Int32).toUInt32 &&& Int32.toUInt32 31)).toInt32) (x1 + 2)
  let f49 := fun (x0 x1 : Int32) => if x0 ≤ (16 : Int32) then f62 x0 x1 else f62 ((x0.toUInt32 >>> ((4 : Int32).toUInt32 &&& Int32.toUInt32 31)).toInt32) (x1 + 4)
  let f34 := fun (x0 x1 : Int32) => if x0 ≤ (256 : Int32) then f49 x0 x1 else f49 ((x0.toUInt32 >>> ((8 : Int32).toUInt32 &&& Int32.toUInt32 31)).toInt32) (x1 + 8)
  if 0 < a then (if a ≤ (65536 : Int32) then f34 a 1 else f34 ((a.toUInt32 >>> ((16 : Int32).toUInt32 &&& Int32.toUInt32 31)).toInt32) (1 + 16)) else a &&& (32 : Int32)
theorem if_some {α : Type} {c : Prop} [Decidable c] {a b : α} {h : gz_H} : (if c then some (a, h) else some (b, h)) = some (if c then a else b, h) := by by_cases e : c <;> simp [e]
theorem ntE_eq (x : Int32) (h : gz_H) : fJ6_numberOfTrailingZeros_0f7a4 x h = some (ntE x, h) := by
  unfold fJ6_numberOfTrailingZeros_0f7a4 fJ6_numberOfTrailingZeros_0f7a4_0 fJ6_numberOfTrailingZeros_0f7a4_34 fJ6_numberOfTrailingZeros_0f7a4_49 fJ6_numberOfTrailingZeros_0f7a4_62 fJ6_numberOfTrailingZeros_0f7a4_74 ntE
  simp only [lt_d, if_some]
theorem ntE_all : ∀ s : Fin 256, s.1 = 0 ∨ ntE (nI s.1) = nI (fst1 s.1) := by decide +kernel
theorem t_nt {h : gz_H} {s : Nat} (hs : s < 256) (h0 : ¬ s = 0) : fJ6_numberOfTrailingZeros_0f7a4 (nI s) h = some (nI (fst1 s), h) := by
  rw [ntE_eq, (ntE_all ⟨s, hs⟩).resolve_left h0]
theorem t_has {h : gz_H} {s k : Nat} (hs : s < 2 ^ 31) (hk : k < 31) : fX9_has (nI s) (nI k) h = some (nI (if s.testBit k then 1 else 0), h) := by
  unfold fX9_has fX9_has_0
  rw [show (31 : Int32) = nI 31 from rfl, show (1 : Int32) = nI 1 from rfl, nI_bit hs hk]
  by_cases e : s.testBit k = true
  · simp [e]
  · simp [e]
    rw [if_neg (by decide)]
    rfl

