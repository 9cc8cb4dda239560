/-! the links: each word is one of lw_tbl, by its place -/
theorem fl_RX8_14 : gz_fl RX8 14 8 0 19 := ⟨RX8, TX8, rfl, by decide, Or.inl (gz_in 266 (by decide +kernel) rfl)⟩
theorem fl_RX8_18 : gz_fl RX8 18 8 1 19 := ⟨RX8, TX8, rfl, by decide, Or.inl (gz_in 267 (by decide +kernel) rfl)⟩
theorem fl_RX8_24 : gz_fl RX8 24 8 2 19 := ⟨RX8, TX8, rfl, by decide, Or.inl (gz_in 268 (by decide +kernel) rfl)⟩
theorem fl_RX8_31 : gz_fl RX8 31 8 3 19 := ⟨RX8, TX8, rfl, by decide, Or.inl (gz_in 269 (by decide +kernel) rfl)⟩
theorem fl_RX8_38 : gz_fl RX8 38 8 4 19 := ⟨RX8, TX8, rfl, by decide, Or.inl (gz_in 270 (by decide +kernel) rfl)⟩
theorem fl_RX8_45 : gz_fl RX8 45 8 5 19 := ⟨RX8, TX8, rfl, by decide, Or.inl (gz_in 271 (by decide +kernel) rfl)⟩
theorem fl_RX8_52 : gz_fl RX8 52 8 6 19 := ⟨RX8, TX8, rfl, by decide, Or.inl (gz_in 272 (by decide +kernel) rfl)⟩
theorem fl_RX8_59 : gz_fl RX8 59 8 7 19 := ⟨RX8, TX8, rfl, by decide, Or.inl (gz_in 273 (by decide +kernel) rfl)⟩
theorem fl_RX8_63 : gz_fl RX8 63 8 8 19 := ⟨RX8, TX8, rfl, by decide, Or.inl (gz_in 274 (by decide +kernel) rfl)⟩
theorem fl_RX8_70 : gz_fl RX8 70 8 9 19 := ⟨RX8, TX8, rfl, by decide, Or.inl (gz_in 275 (by decide +kernel) rfl)⟩
theorem fl_RX8_74 : gz_fl RX8 74 8 10 19 := ⟨RX8, TX8, rfl, by decide, Or.inl (gz_in 276 (by decide +kernel) rfl)⟩
theorem fl_RX8_77 : gz_fl RX8 77 8 11 19 := ⟨RX8, TX8, rfl, by decide, Or.inl (gz_in 277 (by decide +kernel) rfl)⟩
theorem fl_RX8_80 : gz_fl RX8 80 8 12 19 := ⟨RX8, TX8, rfl, by decide, Or.inl (gz_in 278 (by decide +kernel) rfl)⟩
theorem fl_RX8_84 : gz_fl RX8 84 8 13 19 := ⟨RX8, TX8, rfl, by decide, Or.inl (gz_in 279 (by decide +kernel) rfl)⟩
theorem fl_RX8_87 : gz_fl RX8 87 8 14 19 := ⟨RX8, TX8, rfl, by decide, Or.inl (gz_in 280 (by decide +kernel) rfl)⟩
theorem fl_RX8_90 : gz_fl RX8 90 8 15 19 := ⟨RX8, TX8, rfl, by decide, Or.inl (gz_in 281 (by decide +kernel) rfl)⟩
theorem fl_RX8_93 : gz_fl RX8 93 8 16 19 := ⟨RX8, TX8, rfl, by decide, Or.inl (gz_in 282 (by decide +kernel) rfl)⟩
theorem fl_RX8_96 : gz_fl RX8 96 8 17 19 := ⟨RX8, TX8, rfl, by decide, Or.inl (gz_in 283 (by decide +kernel) rfl)⟩
theorem fl_RX8_99 : gz_fl RX8 99 3 1 2 := ⟨RX3, TX3, rfl, by decide, Or.inl (gz_in 228 (by decide +kernel) rfl)⟩
theorem fl_RX8_111 : gz_fl RX8 111 7 1 3 := ⟨RX7, TX7, rfl, by decide, Or.inl (gz_in 114 (by decide +kernel) rfl)⟩
theorem fl_RX8_115 : gz_fl RX8 115 8 18 19 := ⟨RX8, TX8, rfl, by decide, Or.inl (gz_in 284 (by decide +kernel) rfl)⟩
theorem fl_RX8_129 : gz_fl RX8 129 7 2 3 := ⟨RX7, TX7, rfl, by decide, Or.inl (gz_in 116 (by decide +kernel) rfl)⟩
theorem fl_RX8_149 : gz_fl RX8 149 1 3 4 := ⟨RX1, TX1, rfl, by decide, Or.inl (gz_in 256 (by decide +kernel) rfl)⟩
theorem fl_RX8_153 : gz_fl RX8 153 1 1 4 := ⟨RX1, TX1, rfl, by decide, Or.inl (gz_in 250 (by decide +kernel) rfl)⟩
theorem fl_RX8_158 : gz_fl RX8 158 2 2 6 := ⟨RX2, TX2, rfl, by decide, Or.inl (gz_in 199 (by decide +kernel) rfl)⟩
theorem fl_RX8_172 : gz_fl RX8 172 1 0 4 := ⟨RX1, TX1, rfl, by decide, Or.inl (gz_in 247 (by decide +kernel) rfl)⟩
theorem fl_RX8_179 : gz_fl RX8 179 2 5 6 := ⟨RX2, TX2, rfl, by decide, Or.inl (gz_in 207 (by decide +kernel) rfl)⟩
theorem fl_RX8_245 : gz_fl RX8 245 1 2 4 := ⟨RX1, TX1, rfl, by decide, Or.inl (gz_in 253 (by decide +kernel) rfl)⟩
theorem fl_RX8_264 : gz_fl RX8 264 2 3 6 := ⟨RX2, TX2, rfl, by decide, Or.inl (gz_in 201 (by decide +kernel) rfl)⟩
theorem fl_RX8_270 : gz_fl RX8 270 2 4 6 := ⟨RX2, TX2, rfl, by decide, Or.inl (gz_in 204 (by decide +kernel) rfl)⟩
theorem fl_RX8_305 : gz_fl RX8 305 4 0 2 := ⟨RX4, TX4, rfl, by decide, Or.inl (gz_in 166 (by decide +kernel) rfl)⟩
theorem fl_RX8_309 : gz_fl RX8 309 4 1 2 := ⟨RX4, TX4, rfl, by decide, Or.inl (gz_in 168 (by decide +kernel) rfl)⟩
theorem fl_RX8_315 : gz_fl RX8 315 0 1 2 := ⟨RX0, TX0, rfl, by decide, Or.inl (gz_in 153 (by decide +kernel) rfl)⟩
theorem fl_RX8_318 : gz_fl RX8 318 0 0 2 := ⟨RX0, TX0, rfl, by decide, Or.inl (gz_in 151 (by decide +kernel) rfl)⟩
theorem fl_RX8_330 : gz_fl RX8 330 7 0 3 := ⟨RX7, TX7, rfl, by decide, Or.inl (gz_in 112 (by decide +kernel) rfl)⟩
theorem fl_RX0_9 : gz_fl RX0 9 0 0 2 := ⟨RX0, TX0, rfl, by decide, Or.inl (gz_in 150 (by decide +kernel) rfl)⟩
theorem fl_RX1_9 : gz_fl RX1 9 1 0 4 := ⟨RX1, TX1, rfl, by decide, Or.inl (gz_in 245 (by decide +kernel) rfl)⟩
theorem fl_RX1_17 : gz_fl RX1 17 1 1 4 := ⟨RX1, TX1, rfl, by decide, Or.inl (gz_in 248 (by decide +kernel) rfl)⟩
theorem fl_RX1_28 : gz_fl RX1 28 1 2 4 := ⟨RX1, TX1, rfl, by decide, Or.inl (gz_in 251 (by decide +kernel) rfl)⟩
theorem fl_RX1_32 : gz_fl RX1 32 1 3 4 := ⟨RX1, TX1, rfl, by decide, Or.inl (gz_in 254 (by decide +kernel) rfl)⟩
theorem fl_RX1_39 : gz_fl RX1 39 2 5 6 := ⟨RX2, TX2, rfl, by decide, Or.inl (gz_in 206 (by decide +kernel) rfl)⟩
theorem fl_RX1_53 : gz_fl RX1 53 2 2 6 := ⟨RX2, TX2, rfl, by decide, Or.inl (gz_in 198 (by decide +kernel) rfl)⟩
theorem fl_RX1_73 : gz_fl RX1 73 2 4 6 := ⟨RX2, TX2, rfl, by decide, Or.inl (gz_in 203 (by decide +kernel) rfl)⟩
theorem fl_RX1_79 : gz_fl RX1 79 2 1 6 := ⟨RX2, TX2, rfl, by decide, Or.inr ⟨"MemoryGeese", (gz_inN 196 (by decide +kernel) rfl)⟩⟩
theorem fl_RX1_82 : gz_fl RX1 82 2 0 6 := ⟨RX2, TX2, rfl, by decide, Or.inr ⟨"MemoryGeese", (gz_inN 194 (by decide +kernel) rfl)⟩⟩
theorem fl_RX2_9 : gz_fl RX2 9 2 0 6 := ⟨RX2, TX2, rfl, by decide, Or.inl (gz_in 193 (by decide +kernel) rfl)⟩
theorem fl_RX2_15 : gz_fl RX2 15 2 2 6 := ⟨RX2, TX2, rfl, by decide, Or.inl (gz_in 197 (by decide +kernel) rfl)⟩
theorem fl_RX2_19 : gz_fl RX2 19 2 3 6 := ⟨RX2, TX2, rfl, by decide, Or.inl (gz_in 200 (by decide +kernel) rfl)⟩
theorem fl_RX2_22 : gz_fl RX2 22 2 4 6 := ⟨RX2, TX2, rfl, by decide, Or.inl (gz_in 202 (by decide +kernel) rfl)⟩
theorem fl_RX2_25 : gz_fl RX2 25 2 1 6 := ⟨RX2, TX2, rfl, by decide, Or.inl (gz_in 195 (by decide +kernel) rfl)⟩
theorem fl_RX2_28 : gz_fl RX2 28 2 5 6 := ⟨RX2, TX2, rfl, by decide, Or.inl (gz_in 205 (by decide +kernel) rfl)⟩
theorem fl_RX3_9 : gz_fl RX3 9 3 0 2 := ⟨RX3, TX3, rfl, by decide, Or.inl (gz_in 227 (by decide +kernel) rfl)⟩
theorem fl_RX3_21 : gz_fl RX3 21 3 1 2 := ⟨RX3, TX3, rfl, by decide, Or.inl (gz_in 229 (by decide +kernel) rfl)⟩
theorem fl_RX5_9 : gz_fl RX5 9 5 0 4 := ⟨RX5, TX5, rfl, by decide, Or.inl (gz_in 131 (by decide +kernel) rfl)⟩
theorem fl_RX5_15 : gz_fl RX5 15 5 1 4 := ⟨RX5, TX5, rfl, by decide, Or.inl (gz_in 132 (by decide +kernel) rfl)⟩
theorem fl_RX5_19 : gz_fl RX5 19 5 2 4 := ⟨RX5, TX5, rfl, by decide, Or.inl (gz_in 133 (by decide +kernel) rfl)⟩
theorem fl_RX5_22 : gz_fl RX5 22 5 3 4 := ⟨RX5, TX5, rfl, by decide, Or.inl (gz_in 134 (by decide +kernel) rfl)⟩
theorem fl_RX5_26 : gz_fl RX5 26 1 2 4 := ⟨RX1, TX1, rfl, by decide, Or.inl (gz_in 252 (by decide +kernel) rfl)⟩
theorem fl_RX5_31 : gz_fl RX5 31 1 3 4 := ⟨RX1, TX1, rfl, by decide, Or.inl (gz_in 255 (by decide +kernel) rfl)⟩
theorem fl_RX5_46 : gz_fl RX5 46 1 0 4 := ⟨RX1, TX1, rfl, by decide, Or.inl (gz_in 246 (by decide +kernel) rfl)⟩
theorem fl_RX5_52 : gz_fl RX5 52 1 1 4 := ⟨RX1, TX1, rfl, by decide, Or.inl (gz_in 249 (by decide +kernel) rfl)⟩
theorem fl_RX6_9 : gz_fl RX6 9 6 0 2 := ⟨RX6, TX6, rfl, by decide, Or.inl (gz_in 180 (by decide +kernel) rfl)⟩
theorem fl_RX6_21 : gz_fl RX6 21 6 1 2 := ⟨RX6, TX6, rfl, by decide, Or.inl (gz_in 181 (by decide +kernel) rfl)⟩
theorem fl_RX7_17 : gz_fl RX7 17 7 1 3 := ⟨RX7, TX7, rfl, by decide, Or.inl (gz_in 113 (by decide +kernel) rfl)⟩
theorem fl_RX7_20 : gz_fl RX7 20 7 2 3 := ⟨RX7, TX7, rfl, by decide, Or.inl (gz_in 115 (by decide +kernel) rfl)⟩
theorem fl_RX9_7 : gz_fl RX9 7 9 0 29 := ⟨RX9, TX9, rfl, by decide, Or.inl (gz_in 891 (by decide +kernel) rfl)⟩
theorem fl_RX9_13 : gz_fl RX9 13 9 2 29 := ⟨RX9, TX9, rfl, by decide, Or.inl (gz_in 893 (by decide +kernel) rfl)⟩
theorem fl_RX9_16 : gz_fl RX9 16 9 4 29 := ⟨RX9, TX9, rfl, by decide, Or.inl (gz_in 895 (by decide +kernel) rfl)⟩
theorem fl_RX9_19 : gz_fl RX9 19 9 5 29 := ⟨RX9, TX9, rfl, by decide, Or.inl (gz_in 896 (by decide +kernel) rfl)⟩
theorem fl_RX9_22 : gz_fl RX9 22 9 6 29 := ⟨RX9, TX9, rfl, by decide, Or.inl (gz_in 897 (by decide +kernel) rfl)⟩
theorem fl_RX9_25 : gz_fl RX9 25 9 7 29 := ⟨RX9, TX9, rfl, by decide, Or.inl (gz_in 898 (by decide +kernel) rfl)⟩
theorem fl_RX9_28 : gz_fl RX9 28 9 8 29 := ⟨RX9, TX9, rfl, by decide, Or.inl (gz_in 899 (by decide +kernel) rfl)⟩
theorem fl_RX9_31 : gz_fl RX9 31 9 9 29 := ⟨RX9, TX9, rfl, by decide, Or.inl (gz_in 900 (by decide +kernel) rfl)⟩
theorem fl_RX9_34 : gz_fl RX9 34 9 10 29 := ⟨RX9, TX9, rfl, by decide, Or.inl (gz_in 901 (by decide +kernel) rfl)⟩
theorem fl_RX9_37 : gz_fl RX9 37 9 13 29 := ⟨RX9, TX9, rfl, by decide, Or.inl (gz_in 904 (by decide +kernel) rfl)⟩
theorem fl_RX9_41 : gz_fl RX9 41 9 15 29 := ⟨RX9, TX9, rfl, by decide, Or.inl (gz_in 906 (by decide +kernel) rfl)⟩
theorem fl_RX9_44 : gz_fl RX9 44 9 19 29 := ⟨RX9, TX9, rfl, by decide, Or.inl (gz_in 910 (by decide +kernel) rfl)⟩
theorem fl_RX9_47 : gz_fl RX9 47 9 21 29 := ⟨RX9, TX9, rfl, by decide, Or.inl (gz_in 912 (by decide +kernel) rfl)⟩
theorem fl_RX9_50 : gz_fl RX9 50 9 22 29 := ⟨RX9, TX9, rfl, by decide, Or.inl (gz_in 913 (by decide +kernel) rfl)⟩
theorem fl_RX9_53 : gz_fl RX9 53 9 23 29 := ⟨RX9, TX9, rfl, by decide, Or.inl (gz_in 914 (by decide +kernel) rfl)⟩
theorem fl_RX9_56 : gz_fl RX9 56 9 26 29 := ⟨RX9, TX9, rfl, by decide, Or.inl (gz_in 917 (by decide +kernel) rfl)⟩
theorem fl_RX9_59 : gz_fl RX9 59 9 27 29 := ⟨RX9, TX9, rfl, by decide, Or.inl (gz_in 918 (by decide +kernel) rfl)⟩
theorem fl_RX9_62 : gz_fl RX9 62 9 28 29 := ⟨RX9, TX9, rfl, by decide, Or.inl (gz_in 919 (by decide +kernel) rfl)⟩
theorem fl_RX9_65 : gz_fl RX9 65 9 14 29 := ⟨RX9, TX9, rfl, by decide, Or.inl (gz_in 905 (by decide +kernel) rfl)⟩
theorem fl_RX9_69 : gz_fl RX9 69 9 11 29 := ⟨RX9, TX9, rfl, by decide, Or.inl (gz_in 902 (by decide +kernel) rfl)⟩
theorem fl_RX9_106 : gz_fl RX9 106 9 16 29 := ⟨RX9, TX9, rfl, by decide, Or.inl (gz_in 907 (by decide +kernel) rfl)⟩
theorem fl_RX9_109 : gz_fl RX9 109 9 17 29 := ⟨RX9, TX9, rfl, by decide, Or.inl (gz_in 908 (by decide +kernel) rfl)⟩
theorem fl_RX9_112 : gz_fl RX9 112 9 18 29 := ⟨RX9, TX9, rfl, by decide, Or.inl (gz_in 909 (by decide +kernel) rfl)⟩
theorem fl_RX9_130 : gz_fl RX9 130 9 20 29 := ⟨RX9, TX9, rfl, by decide, Or.inl (gz_in 911 (by decide +kernel) rfl)⟩
theorem fl_RX9_139 : gz_fl RX9 139 9 24 29 := ⟨RX9, TX9, rfl, by decide, Or.inl (gz_in 915 (by decide +kernel) rfl)⟩
theorem fl_RX9_155 : gz_fl RX9 155 9 1 29 := ⟨RX9, TX9, rfl, by decide, Or.inl (gz_in 892 (by decide +kernel) rfl)⟩
theorem fl_RX9_158 : gz_fl RX9 158 9 3 29 := ⟨RX9, TX9, rfl, by decide, Or.inl (gz_in 894 (by decide +kernel) rfl)⟩
theorem fl_RX9_164 : gz_fl RX9 164 9 25 29 := ⟨RX9, TX9, rfl, by decide, Or.inl (gz_in 916 (by decide +kernel) rfl)⟩
theorem fl_RX9_278 : gz_fl RX9 278 9 12 29 := ⟨RX9, TX9, rfl, by decide, Or.inl (gz_in 903 (by decide +kernel) rfl)⟩
theorem fw_X0_answer_15 : gz_fw mX0_answer 15 0 1 2 := ⟨RX0, TX0, rfl, by decide, (gz_in 152 (by decide +kernel) rfl), Or.inl rfl⟩
theorem fw_X0_init_9 : gz_fw mX0_init 9 0 0 2 := ⟨RX0, TX0, rfl, by decide, (gz_in 150 (by decide +kernel) rfl), Or.inr ⟨rfl, rfl, rfl⟩⟩
theorem fw_X1_become_28 : gz_fw mX1_become 28 1 2 4 := ⟨RX1, TX1, rfl, by decide, (gz_in 251 (by decide +kernel) rfl), Or.inl rfl⟩
theorem fw_X1_become_32 : gz_fw mX1_become 32 1 3 4 := ⟨RX1, TX1, rfl, by decide, (gz_in 254 (by decide +kernel) rfl), Or.inl rfl⟩
theorem fw_X1_init_9 : gz_fw mX1_init 9 1 0 4 := ⟨RX1, TX1, rfl, by decide, (gz_in 245 (by decide +kernel) rfl), Or.inr ⟨rfl, rfl, rfl⟩⟩
theorem fw_X1_init_17 : gz_fw mX1_init 17 1 1 4 := ⟨RX1, TX1, rfl, by decide, (gz_in 248 (by decide +kernel) rfl), Or.inr ⟨rfl, rfl, rfl⟩⟩
theorem fw_X2_become_15 : gz_fw mX2_become 15 2 2 6 := ⟨RX2, TX2, rfl, by decide, (gz_in 197 (by decide +kernel) rfl), Or.inl rfl⟩
theorem fw_X2_become_19 : gz_fw mX2_become 19 2 3 6 := ⟨RX2, TX2, rfl, by decide, (gz_in 200 (by decide +kernel) rfl), Or.inl rfl⟩
theorem fw_X2_become_22 : gz_fw mX2_become 22 2 4 6 := ⟨RX2, TX2, rfl, by decide, (gz_in 202 (by decide +kernel) rfl), Or.inl rfl⟩
theorem fw_X2_become_25 : gz_fw mX2_become 25 2 1 6 := ⟨RX2, TX2, rfl, by decide, (gz_in 195 (by decide +kernel) rfl), Or.inl rfl⟩
theorem fw_X2_become_28 : gz_fw mX2_become 28 2 5 6 := ⟨RX2, TX2, rfl, by decide, (gz_in 205 (by decide +kernel) rfl), Or.inl rfl⟩
theorem fw_X2_becomeLike_25 : gz_fw mX2_becomeLike 25 2 1 6 := ⟨RX2, TX2, rfl, by decide, (gz_in 195 (by decide +kernel) rfl), Or.inl rfl⟩
theorem fw_X2_becomeLike_28 : gz_fw mX2_becomeLike 28 2 5 6 := ⟨RX2, TX2, rfl, by decide, (gz_in 205 (by decide +kernel) rfl), Or.inl rfl⟩
theorem fw_X2_init_9 : gz_fw mX2_init 9 2 0 6 := ⟨RX2, TX2, rfl, by decide, (gz_in 193 (by decide +kernel) rfl), Or.inr ⟨rfl, rfl, rfl⟩⟩
theorem fw_X2_leave_25 : gz_fw mX2_leave 25 2 1 6 := ⟨RX2, TX2, rfl, by decide, (gz_in 195 (by decide +kernel) rfl), Or.inl rfl⟩
theorem fw_X2_leave_28 : gz_fw mX2_leave 28 2 5 6 := ⟨RX2, TX2, rfl, by decide, (gz_in 205 (by decide +kernel) rfl), Or.inl rfl⟩
theorem fw_X2_loseNewest_25 : gz_fw mX2_loseNewest 25 2 1 6 := ⟨RX2, TX2, rfl, by decide, (gz_in 195 (by decide +kernel) rfl), Or.inl rfl⟩
theorem fw_X2_removeAt_25 : gz_fw mX2_removeAt 25 2 1 6 := ⟨RX2, TX2, rfl, by decide, (gz_in 195 (by decide +kernel) rfl), Or.inl rfl⟩
theorem fw_X2_take_25 : gz_fw mX2_take 25 2 1 6 := ⟨RX2, TX2, rfl, by decide, (gz_in 195 (by decide +kernel) rfl), Or.inl rfl⟩
theorem fw_X3_become_21 : gz_fw mX3_become 21 3 1 2 := ⟨RX3, TX3, rfl, by decide, (gz_in 229 (by decide +kernel) rfl), Or.inl rfl⟩
theorem fw_X3_init_9 : gz_fw mX3_init 9 3 0 2 := ⟨RX3, TX3, rfl, by decide, (gz_in 227 (by decide +kernel) rfl), Or.inr ⟨rfl, rfl, rfl⟩⟩
theorem fw_X3_note_21 : gz_fw mX3_note 21 3 1 2 := ⟨RX3, TX3, rfl, by decide, (gz_in 229 (by decide +kernel) rfl), Or.inl rfl⟩
theorem fw_X4_become_7 : gz_fw mX4_become 7 4 0 2 := ⟨RX4, TX4, rfl, by decide, (gz_in 165 (by decide +kernel) rfl), Or.inl rfl⟩
theorem fw_X4_become_13 : gz_fw mX4_become 13 4 1 2 := ⟨RX4, TX4, rfl, by decide, (gz_in 167 (by decide +kernel) rfl), Or.inl rfl⟩
theorem fw_X4_init_7 : gz_fw mX4_init 7 4 0 2 := ⟨RX4, TX4, rfl, by decide, (gz_in 165 (by decide +kernel) rfl), Or.inl rfl⟩
theorem fw_X4_init_13 : gz_fw mX4_init 13 4 1 2 := ⟨RX4, TX4, rfl, by decide, (gz_in 167 (by decide +kernel) rfl), Or.inl rfl⟩
theorem fw_X5_readFlock_9 : gz_fw mX5_readFlock 9 5 0 4 := ⟨RX5, TX5, rfl, by decide, (gz_in 131 (by decide +kernel) rfl), Or.inl rfl⟩
theorem fw_X5_readFlock_15 : gz_fw mX5_readFlock 15 5 1 4 := ⟨RX5, TX5, rfl, by decide, (gz_in 132 (by decide +kernel) rfl), Or.inl rfl⟩
theorem fw_X5_readFlock_19 : gz_fw mX5_readFlock 19 5 2 4 := ⟨RX5, TX5, rfl, by decide, (gz_in 133 (by decide +kernel) rfl), Or.inl rfl⟩
theorem fw_X5_readFlock_22 : gz_fw mX5_readFlock 22 5 3 4 := ⟨RX5, TX5, rfl, by decide, (gz_in 134 (by decide +kernel) rfl), Or.inl rfl⟩
theorem fw_X5_readFlock_26 : gz_fw mX5_readFlock 26 1 2 4 := ⟨RX1, TX1, rfl, by decide, (gz_in 252 (by decide +kernel) rfl), Or.inl rfl⟩
theorem fw_X5_readFlock_31 : gz_fw mX5_readFlock 31 1 3 4 := ⟨RX1, TX1, rfl, by decide, (gz_in 255 (by decide +kernel) rfl), Or.inl rfl⟩
theorem fw_X5_readGoose_19 : gz_fw mX5_readGoose 19 5 2 4 := ⟨RX5, TX5, rfl, by decide, (gz_in 133 (by decide +kernel) rfl), Or.inl rfl⟩
theorem fw_X5_readGoose_31 : gz_fw mX5_readGoose 31 1 3 4 := ⟨RX1, TX1, rfl, by decide, (gz_in 255 (by decide +kernel) rfl), Or.inl rfl⟩
theorem fw_X5_readVillage_19 : gz_fw mX5_readVillage 19 5 2 4 := ⟨RX5, TX5, rfl, by decide, (gz_in 133 (by decide +kernel) rfl), Or.inl rfl⟩
theorem fw_X5_readVillage_26 : gz_fw mX5_readVillage 26 1 2 4 := ⟨RX1, TX1, rfl, by decide, (gz_in 252 (by decide +kernel) rfl), Or.inl rfl⟩
theorem fw_X5_skipBlanks_19 : gz_fw mX5_skipBlanks 19 5 2 4 := ⟨RX5, TX5, rfl, by decide, (gz_in 133 (by decide +kernel) rfl), Or.inl rfl⟩
theorem fw_X6_init_9 : gz_fw mX6_init 9 6 0 2 := ⟨RX6, TX6, rfl, by decide, (gz_in 180 (by decide +kernel) rfl), Or.inr ⟨rfl, rfl, rfl⟩⟩
theorem fw_X6_readPairs_21 : gz_fw mX6_readPairs 21 6 1 2 := ⟨RX6, TX6, rfl, by decide, (gz_in 181 (by decide +kernel) rfl), Or.inl rfl⟩
theorem fw_X7_init_9 : gz_fw mX7_init 9 7 0 3 := ⟨RX7, TX7, rfl, by decide, (gz_in 111 (by decide +kernel) rfl), Or.inr ⟨rfl, rfl, rfl⟩⟩
theorem fw_X7_init_17 : gz_fw mX7_init 17 7 1 3 := ⟨RX7, TX7, rfl, by decide, (gz_in 113 (by decide +kernel) rfl), Or.inr ⟨rfl, rfl, rfl⟩⟩
theorem fw_X7_init_20 : gz_fw mX7_init 20 7 2 3 := ⟨RX7, TX7, rfl, by decide, (gz_in 115 (by decide +kernel) rfl), Or.inr ⟨rfl, rfl, rfl⟩⟩
theorem fw_X8_at_115 : gz_fw mX8_at 115 8 18 19 := ⟨RX8, TX8, rfl, by decide, (gz_in 284 (by decide +kernel) rfl), Or.inl rfl⟩
theorem fw_X8_crew_115 : gz_fw mX8_crew 115 8 18 19 := ⟨RX8, TX8, rfl, by decide, (gz_in 284 (by decide +kernel) rfl), Or.inl rfl⟩
theorem fw_X8_firstAndAsked_115 : gz_fw mX8_firstAndAsked 115 8 18 19 := ⟨RX8, TX8, rfl, by decide, (gz_in 284 (by decide +kernel) rfl), Or.inl rfl⟩
theorem fw_X8_flock_74 : gz_fw mX8_flock 74 8 10 19 := ⟨RX8, TX8, rfl, by decide, (gz_in 276 (by decide +kernel) rfl), Or.inl rfl⟩
theorem fw_X8_flock_77 : gz_fw mX8_flock 77 8 11 19 := ⟨RX8, TX8, rfl, by decide, (gz_in 277 (by decide +kernel) rfl), Or.inl rfl⟩
theorem fw_X8_flock_99 : gz_fw mX8_flock 99 3 1 2 := ⟨RX3, TX3, rfl, by decide, (gz_in 228 (by decide +kernel) rfl), Or.inl rfl⟩
theorem fw_X8_goose_115 : gz_fw mX8_goose 115 8 18 19 := ⟨RX8, TX8, rfl, by decide, (gz_in 284 (by decide +kernel) rfl), Or.inl rfl⟩
theorem fw_X8_holders_115 : gz_fw mX8_holders 115 8 18 19 := ⟨RX8, TX8, rfl, by decide, (gz_in 284 (by decide +kernel) rfl), Or.inl rfl⟩
theorem fw_X8_init_14 : gz_fw mX8_init 14 8 0 19 := ⟨RX8, TX8, rfl, by decide, (gz_in 266 (by decide +kernel) rfl), Or.inr ⟨rfl, rfl, rfl⟩⟩
theorem fw_X8_init_18 : gz_fw mX8_init 18 8 1 19 := ⟨RX8, TX8, rfl, by decide, (gz_in 267 (by decide +kernel) rfl), Or.inr ⟨rfl, rfl, rfl⟩⟩
theorem fw_X8_init_24 : gz_fw mX8_init 24 8 2 19 := ⟨RX8, TX8, rfl, by decide, (gz_in 268 (by decide +kernel) rfl), Or.inr ⟨rfl, rfl, rfl⟩⟩
theorem fw_X8_init_31 : gz_fw mX8_init 31 8 3 19 := ⟨RX8, TX8, rfl, by decide, (gz_in 269 (by decide +kernel) rfl), Or.inr ⟨rfl, rfl, rfl⟩⟩
theorem fw_X8_init_38 : gz_fw mX8_init 38 8 4 19 := ⟨RX8, TX8, rfl, by decide, (gz_in 270 (by decide +kernel) rfl), Or.inr ⟨rfl, rfl, rfl⟩⟩
theorem fw_X8_init_45 : gz_fw mX8_init 45 8 5 19 := ⟨RX8, TX8, rfl, by decide, (gz_in 271 (by decide +kernel) rfl), Or.inr ⟨rfl, rfl, rfl⟩⟩
theorem fw_X8_init_52 : gz_fw mX8_init 52 8 6 19 := ⟨RX8, TX8, rfl, by decide, (gz_in 272 (by decide +kernel) rfl), Or.inr ⟨rfl, rfl, rfl⟩⟩
theorem fw_X8_init_59 : gz_fw mX8_init 59 8 7 19 := ⟨RX8, TX8, rfl, by decide, (gz_in 273 (by decide +kernel) rfl), Or.inr ⟨rfl, rfl, rfl⟩⟩
theorem fw_X8_init_63 : gz_fw mX8_init 63 8 8 19 := ⟨RX8, TX8, rfl, by decide, (gz_in 274 (by decide +kernel) rfl), Or.inr ⟨rfl, rfl, rfl⟩⟩
theorem fw_X8_init_70 : gz_fw mX8_init 70 8 9 19 := ⟨RX8, TX8, rfl, by decide, (gz_in 275 (by decide +kernel) rfl), Or.inr ⟨rfl, rfl, rfl⟩⟩
theorem fw_X8_init_74 : gz_fw mX8_init 74 8 10 19 := ⟨RX8, TX8, rfl, by decide, (gz_in 276 (by decide +kernel) rfl), Or.inl rfl⟩
theorem fw_X8_init_77 : gz_fw mX8_init 77 8 11 19 := ⟨RX8, TX8, rfl, by decide, (gz_in 277 (by decide +kernel) rfl), Or.inl rfl⟩
theorem fw_X8_init_80 : gz_fw mX8_init 80 8 12 19 := ⟨RX8, TX8, rfl, by decide, (gz_in 278 (by decide +kernel) rfl), Or.inr ⟨rfl, rfl, rfl⟩⟩
theorem fw_X8_init_84 : gz_fw mX8_init 84 8 13 19 := ⟨RX8, TX8, rfl, by decide, (gz_in 279 (by decide +kernel) rfl), Or.inr ⟨rfl, rfl, rfl⟩⟩
theorem fw_X8_init_87 : gz_fw mX8_init 87 8 14 19 := ⟨RX8, TX8, rfl, by decide, (gz_in 280 (by decide +kernel) rfl), Or.inr ⟨rfl, rfl, rfl⟩⟩
theorem fw_X8_init_90 : gz_fw mX8_init 90 8 15 19 := ⟨RX8, TX8, rfl, by decide, (gz_in 281 (by decide +kernel) rfl), Or.inr ⟨rfl, rfl, rfl⟩⟩
theorem fw_X8_init_93 : gz_fw mX8_init 93 8 16 19 := ⟨RX8, TX8, rfl, by decide, (gz_in 282 (by decide +kernel) rfl), Or.inr ⟨rfl, rfl, rfl⟩⟩
theorem fw_X8_init_96 : gz_fw mX8_init 96 8 17 19 := ⟨RX8, TX8, rfl, by decide, (gz_in 283 (by decide +kernel) rfl), Or.inr ⟨rfl, rfl, rfl⟩⟩
theorem fw_X8_init_99 : gz_fw mX8_init 99 3 1 2 := ⟨RX3, TX3, rfl, by decide, (gz_in 228 (by decide +kernel) rfl), Or.inl rfl⟩
theorem fw_X8_lay_115 : gz_fw mX8_lay 115 8 18 19 := ⟨RX8, TX8, rfl, by decide, (gz_in 284 (by decide +kernel) rfl), Or.inl rfl⟩
theorem fw_X8_mean_115 : gz_fw mX8_mean 115 8 18 19 := ⟨RX8, TX8, rfl, by decide, (gz_in 284 (by decide +kernel) rfl), Or.inl rfl⟩
theorem fw_X8_risk_115 : gz_fw mX8_risk 115 8 18 19 := ⟨RX8, TX8, rfl, by decide, (gz_in 284 (by decide +kernel) rfl), Or.inl rfl⟩
theorem fw_X8_undo_99 : gz_fw mX8_undo 99 3 1 2 := ⟨RX3, TX3, rfl, by decide, (gz_in 228 (by decide +kernel) rfl), Or.inl rfl⟩
theorem fw_X9_crew_69 : gz_fw mX9_crew 69 9 11 29 := ⟨RX9, TX9, rfl, by decide, (gz_in 902 (by decide +kernel) rfl), Or.inl rfl⟩
theorem fw_X9_faultOf_106 : gz_fw mX9_faultOf 106 9 16 29 := ⟨RX9, TX9, rfl, by decide, (gz_in 907 (by decide +kernel) rfl), Or.inl rfl⟩
theorem fw_X9_faultOf_109 : gz_fw mX9_faultOf 109 9 17 29 := ⟨RX9, TX9, rfl, by decide, (gz_in 908 (by decide +kernel) rfl), Or.inl rfl⟩
theorem fw_X9_faultOf_112 : gz_fw mX9_faultOf 112 9 18 29 := ⟨RX9, TX9, rfl, by decide, (gz_in 909 (by decide +kernel) rfl), Or.inl rfl⟩
theorem fw_X9_faultOf_130 : gz_fw mX9_faultOf 130 9 20 29 := ⟨RX9, TX9, rfl, by decide, (gz_in 911 (by decide +kernel) rfl), Or.inl rfl⟩
theorem fw_X9_faultOf_139 : gz_fw mX9_faultOf 139 9 24 29 := ⟨RX9, TX9, rfl, by decide, (gz_in 915 (by decide +kernel) rfl), Or.inl rfl⟩
theorem fw_X9_figure_109 : gz_fw mX9_figure 109 9 17 29 := ⟨RX9, TX9, rfl, by decide, (gz_in 908 (by decide +kernel) rfl), Or.inl rfl⟩
theorem fw_X9_find_65 : gz_fw mX9_find 65 9 14 29 := ⟨RX9, TX9, rfl, by decide, (gz_in 905 (by decide +kernel) rfl), Or.inl rfl⟩
theorem fw_X9_firstOf_69 : gz_fw mX9_firstOf 69 9 11 29 := ⟨RX9, TX9, rfl, by decide, (gz_in 902 (by decide +kernel) rfl), Or.inl rfl⟩
theorem fw_X9_flock_155 : gz_fw mX9_flock 155 9 1 29 := ⟨RX9, TX9, rfl, by decide, (gz_in 892 (by decide +kernel) rfl), Or.inl rfl⟩
theorem fw_X9_flock_158 : gz_fw mX9_flock 158 9 3 29 := ⟨RX9, TX9, rfl, by decide, (gz_in 894 (by decide +kernel) rfl), Or.inl rfl⟩
theorem fw_X9_held_37 : gz_fw mX9_held 37 9 13 29 := ⟨RX9, TX9, rfl, by decide, (gz_in 904 (by decide +kernel) rfl), Or.inl rfl⟩
theorem fw_X9_held_164 : gz_fw mX9_held 164 9 25 29 := ⟨RX9, TX9, rfl, by decide, (gz_in 916 (by decide +kernel) rfl), Or.inl rfl⟩
theorem fw_X9_held_278 : gz_fw mX9_held 278 9 12 29 := ⟨RX9, TX9, rfl, by decide, (gz_in 903 (by decide +kernel) rfl), Or.inl rfl⟩
theorem fw_X9_holders_69 : gz_fw mX9_holders 69 9 11 29 := ⟨RX9, TX9, rfl, by decide, (gz_in 902 (by decide +kernel) rfl), Or.inl rfl⟩
theorem fw_X9_init_7 : gz_fw mX9_init 7 9 0 29 := ⟨RX9, TX9, rfl, by decide, (gz_in 891 (by decide +kernel) rfl), Or.inr ⟨rfl, rfl, rfl⟩⟩
theorem fw_X9_init_13 : gz_fw mX9_init 13 9 2 29 := ⟨RX9, TX9, rfl, by decide, (gz_in 893 (by decide +kernel) rfl), Or.inr ⟨rfl, rfl, rfl⟩⟩
theorem fw_X9_init_16 : gz_fw mX9_init 16 9 4 29 := ⟨RX9, TX9, rfl, by decide, (gz_in 895 (by decide +kernel) rfl), Or.inr ⟨rfl, rfl, rfl⟩⟩
theorem fw_X9_init_19 : gz_fw mX9_init 19 9 5 29 := ⟨RX9, TX9, rfl, by decide, (gz_in 896 (by decide +kernel) rfl), Or.inr ⟨rfl, rfl, rfl⟩⟩
theorem fw_X9_init_22 : gz_fw mX9_init 22 9 6 29 := ⟨RX9, TX9, rfl, by decide, (gz_in 897 (by decide +kernel) rfl), Or.inr ⟨rfl, rfl, rfl⟩⟩
theorem fw_X9_init_25 : gz_fw mX9_init 25 9 7 29 := ⟨RX9, TX9, rfl, by decide, (gz_in 898 (by decide +kernel) rfl), Or.inr ⟨rfl, rfl, rfl⟩⟩
theorem fw_X9_init_28 : gz_fw mX9_init 28 9 8 29 := ⟨RX9, TX9, rfl, by decide, (gz_in 899 (by decide +kernel) rfl), Or.inr ⟨rfl, rfl, rfl⟩⟩
theorem fw_X9_init_31 : gz_fw mX9_init 31 9 9 29 := ⟨RX9, TX9, rfl, by decide, (gz_in 900 (by decide +kernel) rfl), Or.inr ⟨rfl, rfl, rfl⟩⟩
theorem fw_X9_init_34 : gz_fw mX9_init 34 9 10 29 := ⟨RX9, TX9, rfl, by decide, (gz_in 901 (by decide +kernel) rfl), Or.inr ⟨rfl, rfl, rfl⟩⟩
theorem fw_X9_init_37 : gz_fw mX9_init 37 9 13 29 := ⟨RX9, TX9, rfl, by decide, (gz_in 904 (by decide +kernel) rfl), Or.inl rfl⟩
theorem fw_X9_init_41 : gz_fw mX9_init 41 9 15 29 := ⟨RX9, TX9, rfl, by decide, (gz_in 906 (by decide +kernel) rfl), Or.inr ⟨rfl, rfl, rfl⟩⟩
theorem fw_X9_init_44 : gz_fw mX9_init 44 9 19 29 := ⟨RX9, TX9, rfl, by decide, (gz_in 910 (by decide +kernel) rfl), Or.inr ⟨rfl, rfl, rfl⟩⟩
theorem fw_X9_init_47 : gz_fw mX9_init 47 9 21 29 := ⟨RX9, TX9, rfl, by decide, (gz_in 912 (by decide +kernel) rfl), Or.inr ⟨rfl, rfl, rfl⟩⟩
theorem fw_X9_init_50 : gz_fw mX9_init 50 9 22 29 := ⟨RX9, TX9, rfl, by decide, (gz_in 913 (by decide +kernel) rfl), Or.inr ⟨rfl, rfl, rfl⟩⟩
theorem fw_X9_init_53 : gz_fw mX9_init 53 9 23 29 := ⟨RX9, TX9, rfl, by decide, (gz_in 914 (by decide +kernel) rfl), Or.inr ⟨rfl, rfl, rfl⟩⟩
theorem fw_X9_init_56 : gz_fw mX9_init 56 9 26 29 := ⟨RX9, TX9, rfl, by decide, (gz_in 917 (by decide +kernel) rfl), Or.inr ⟨rfl, rfl, rfl⟩⟩
theorem fw_X9_init_59 : gz_fw mX9_init 59 9 27 29 := ⟨RX9, TX9, rfl, by decide, (gz_in 918 (by decide +kernel) rfl), Or.inr ⟨rfl, rfl, rfl⟩⟩
theorem fw_X9_init_62 : gz_fw mX9_init 62 9 28 29 := ⟨RX9, TX9, rfl, by decide, (gz_in 919 (by decide +kernel) rfl), Or.inr ⟨rfl, rfl, rfl⟩⟩
theorem fw_X9_layHeld_164 : gz_fw mX9_layHeld 164 9 25 29 := ⟨RX9, TX9, rfl, by decide, (gz_in 916 (by decide +kernel) rfl), Or.inl rfl⟩
theorem fw_X9_readsFacts_109 : gz_fw mX9_readsFacts 109 9 17 29 := ⟨RX9, TX9, rfl, by decide, (gz_in 908 (by decide +kernel) rfl), Or.inl rfl⟩
theorem fw_X9_readsFacts_130 : gz_fw mX9_readsFacts 130 9 20 29 := ⟨RX9, TX9, rfl, by decide, (gz_in 911 (by decide +kernel) rfl), Or.inl rfl⟩
theorem fw_X9_readsGoose_109 : gz_fw mX9_readsGoose 109 9 17 29 := ⟨RX9, TX9, rfl, by decide, (gz_in 908 (by decide +kernel) rfl), Or.inl rfl⟩
theorem fw_X9_readsGoose_139 : gz_fw mX9_readsGoose 139 9 24 29 := ⟨RX9, TX9, rfl, by decide, (gz_in 915 (by decide +kernel) rfl), Or.inl rfl⟩
theorem fw_X9_risk_69 : gz_fw mX9_risk 69 9 11 29 := ⟨RX9, TX9, rfl, by decide, (gz_in 902 (by decide +kernel) rfl), Or.inl rfl⟩
theorem fw_X9_skip_109 : gz_fw mX9_skip 109 9 17 29 := ⟨RX9, TX9, rfl, by decide, (gz_in 908 (by decide +kernel) rfl), Or.inl rfl⟩
theorem fw_X9_tell_69 : gz_fw mX9_tell 69 9 11 29 := ⟨RX9, TX9, rfl, by decide, (gz_in 902 (by decide +kernel) rfl), Or.inl rfl⟩
theorem fw_X9_tellParts_37 : gz_fw mX9_tellParts 37 9 13 29 := ⟨RX9, TX9, rfl, by decide, (gz_in 904 (by decide +kernel) rfl), Or.inl rfl⟩
theorem fw_X9_tellParts_278 : gz_fw mX9_tellParts 278 9 12 29 := ⟨RX9, TX9, rfl, by decide, (gz_in 903 (by decide +kernel) rfl), Or.inl rfl⟩
theorem kd_X8_isOf : Cond.code yX8_isOf cX8_isOf 2 (some .boolean) ∈ gz_TB := (gz_in 548 (by decide +kernel) rfl)
theorem ki_X8_isOf : Cond.initialized (yX8_isOf).cls ∈ gz_TB := (gz_in 78 (by decide +kernel) rfl)
theorem ks_X8_isOf : Cond.static yX8_isOf ∈ gz_TB := (gz_in 547 (by decide +kernel) rfl)
theorem kl_RX8_161 : gz_lk 0 RX8 161 mX8_isOf 2 := ⟨kd_X8_isOf, ki_X8_isOf, Or.inl (gz_in 546 (by decide +kernel) rfl), by decide, ⟨by decide +kernel, by decide +kernel, by decide +kernel⟩, fun _ => ks_X8_isOf, fun z => absurd rfl z, fun z => absurd z (by decide), fun z => absurd z (by decide)⟩
theorem kd_X8_joined : Cond.code yX8_joined cX8_joined 4 (some .int) ∈ gz_TB := (gz_in 655 (by decide +kernel) rfl)
theorem ki_X8_joined : Cond.initialized (yX8_joined).cls ∈ gz_TB := (gz_in 78 (by decide +kernel) rfl)
theorem ks_X8_joined : Cond.static yX8_joined ∈ gz_TB := (gz_in 654 (by decide +kernel) rfl)
theorem kl_RX8_200 : gz_lk 0 RX8 200 mX8_joined 2 := ⟨kd_X8_joined, ki_X8_joined, Or.inl (gz_in 653 (by decide +kernel) rfl), by decide, ⟨by decide +kernel, by decide +kernel, by decide +kernel⟩, fun _ => ks_X8_joined, fun z => absurd rfl z, fun z => absurd z (by decide), fun z => absurd z (by decide)⟩
theorem kd_X8_whichHave : Cond.code yX8_whichHave cX8_whichHave 4 (some .int) ∈ gz_TB := (gz_in 662 (by decide +kernel) rfl)
theorem ki_X8_whichHave : Cond.initialized (yX8_whichHave).cls ∈ gz_TB := (gz_in 78 (by decide +kernel) rfl)
theorem ks_X8_whichHave : Cond.static yX8_whichHave ∈ gz_TB := (gz_in 661 (by decide +kernel) rfl)
theorem kl_RX8_204 : gz_lk 0 RX8 204 mX8_whichHave 2 := ⟨kd_X8_whichHave, ki_X8_whichHave, Or.inl (gz_in 660 (by decide +kernel) rfl), by decide, ⟨by decide +kernel, by decide +kernel, by decide +kernel⟩, fun _ => ks_X8_whichHave, fun z => absurd rfl z, fun z => absurd z (by decide), fun z => absurd z (by decide)⟩
theorem kd_J6_bitCount_0f7a4 : Cond.code yJ6_bitCount_0f7a4 cJ6_bitCount_0f7a4 1 (some .int) ∈ gz_TB := (gz_in 525 (by decide +kernel) rfl)
theorem ki_J6_bitCount_0f7a4 : Cond.initialized (yJ6_bitCount_0f7a4).cls ∈ gz_TB := (gz_in 90 (by decide +kernel) rfl)
theorem ks_J6_bitCount_0f7a4 : Cond.static yJ6_bitCount_0f7a4 ∈ gz_TB := (gz_in 524 (by decide +kernel) rfl)
theorem kl_RX8_226 : gz_lk 0 RX8 226 mJ6_bitCount_0f7a4 1 := ⟨kd_J6_bitCount_0f7a4, ki_J6_bitCount_0f7a4, Or.inl (gz_in 677 (by decide +kernel) rfl), by decide, ⟨by decide +kernel, by decide +kernel, by decide +kernel⟩, fun _ => ks_J6_bitCount_0f7a4, fun z => absurd rfl z, fun z => absurd z (by decide), fun z => absurd z (by decide)⟩
theorem kd_X8_fittingRows : Cond.code yX8_fittingRows cX8_fittingRows 6 (some .int) ∈ gz_TB := (gz_in 773 (by decide +kernel) rfl)
theorem ki_X8_fittingRows : Cond.initialized (yX8_fittingRows).cls ∈ gz_TB := (gz_in 78 (by decide +kernel) rfl)
theorem ks_X8_fittingRows : Cond.static yX8_fittingRows ∈ gz_TB := (gz_in 772 (by decide +kernel) rfl)
theorem kl_RX8_275 : gz_lk 0 RX8 275 mX8_fittingRows 4 := ⟨kd_X8_fittingRows, ki_X8_fittingRows, Or.inl (gz_in 771 (by decide +kernel) rfl), by decide, ⟨by decide +kernel, by decide +kernel, by decide +kernel⟩, fun _ => ks_X8_fittingRows, fun z => absurd rfl z, fun z => absurd z (by decide), fun z => absurd z (by decide)⟩
theorem kd_X8_power : Cond.code yX8_power cX8_power 5 (some .long) ∈ gz_TB := (gz_in 802 (by decide +kernel) rfl)
theorem ki_X8_power : Cond.initialized (yX8_power).cls ∈ gz_TB := (gz_in 78 (by decide +kernel) rfl)
theorem ks_X8_power : Cond.static yX8_power ∈ gz_TB := (gz_in 801 (by decide +kernel) rfl)
theorem kl_RX8_293 : gz_lk 0 RX8 293 mX8_power 2 := ⟨kd_X8_power, ki_X8_power, Or.inl (gz_in 800 (by decide +kernel) rfl), by decide, ⟨by decide +kernel, by decide +kernel, by decide +kernel⟩, fun _ => ks_X8_power, fun z => absurd rfl z, fun z => absurd z (by decide), fun z => absurd z (by decide)⟩
theorem kd_J6_numberOfTrailingZeros_0f7a4 : Cond.code yJ6_numberOfTrailingZeros_0f7a4 cJ6_numberOfTrailingZeros_0f7a4 2 (some .int) ∈ gz_TB := (gz_in 680 (by decide +kernel) rfl)
theorem ki_J6_numberOfTrailingZeros_0f7a4 : Cond.initialized (yJ6_numberOfTrailingZeros_0f7a4).cls ∈ gz_TB := (gz_in 90 (by decide +kernel) rfl)
theorem ks_J6_numberOfTrailingZeros_0f7a4 : Cond.static yJ6_numberOfTrailingZeros_0f7a4 ∈ gz_TB := (gz_in 679 (by decide +kernel) rfl)
theorem kl_RX8_370 : gz_lk 0 RX8 370 mJ6_numberOfTrailingZeros_0f7a4 1 := ⟨kd_J6_numberOfTrailingZeros_0f7a4, ki_J6_numberOfTrailingZeros_0f7a4, Or.inl (gz_in 678 (by decide +kernel) rfl), by decide, ⟨by decide +kernel, by decide +kernel, by decide +kernel⟩, fun _ => ks_J6_numberOfTrailingZeros_0f7a4, fun z => absurd rfl z, fun z => absurd z (by decide), fun z => absurd z (by decide)⟩
theorem kd_X8_isShorter : Cond.code yX8_isShorter cX8_isShorter 4 (some .boolean) ∈ gz_TB := (gz_in 701 (by decide +kernel) rfl)
theorem ki_X8_isShorter : Cond.initialized (yX8_isShorter).cls ∈ gz_TB := (gz_in 78 (by decide +kernel) rfl)
theorem ks_X8_isShorter : Cond.static yX8_isShorter ∈ gz_TB := (gz_in 700 (by decide +kernel) rfl)
theorem kl_RX8_373 : gz_lk 0 RX8 373 mX8_isShorter 2 := ⟨kd_X8_isShorter, ki_X8_isShorter, Or.inl (gz_in 699 (by decide +kernel) rfl), by decide, ⟨by decide +kernel, by decide +kernel, by decide +kernel⟩, fun _ => ks_X8_isShorter, fun z => absurd rfl z, fun z => absurd z (by decide), fun z => absurd z (by decide)⟩
theorem kl_RX1_47 : gz_lk 0 RX1 47 mJ6_bitCount_0f7a4 1 := ⟨kd_J6_bitCount_0f7a4, ki_J6_bitCount_0f7a4, Or.inl (gz_in 523 (by decide +kernel) rfl), by decide, ⟨by decide +kernel, by decide +kernel, by decide +kernel⟩, fun _ => ks_J6_bitCount_0f7a4, fun z => absurd rfl z, fun z => absurd z (by decide), fun z => absurd z (by decide)⟩
theorem kl_RX1_56 : gz_lk 0 RX1 56 mX8_isOf 2 := ⟨kd_X8_isOf, ki_X8_isOf, Or.inr ⟨"MemoryGeese", (gz_inN 845 (by decide +kernel) rfl)⟩, by decide, ⟨by decide +kernel, by decide +kernel, by decide +kernel⟩, fun _ => ks_X8_isOf, fun z => absurd rfl z, fun z => absurd z (by decide), fun z => absurd z (by decide)⟩
theorem kl_RX2_64 : gz_lk 0 RX2 64 mX8_isOf 2 := ⟨kd_X8_isOf, ki_X8_isOf, Or.inr ⟨"MemoryGeese", (gz_inN 565 (by decide +kernel) rfl)⟩, by decide, ⟨by decide +kernel, by decide +kernel, by decide +kernel⟩, fun _ => ks_X8_isOf, fun z => absurd rfl z, fun z => absurd z (by decide), fun z => absurd z (by decide)⟩
theorem kd_X2_isCalledBy : Cond.code yX2_isCalledBy cX2_isCalledBy 3 (some .boolean) ∈ gz_TB := (gz_in 568 (by decide +kernel) rfl)
theorem ki_X2_isCalledBy : Cond.initialized (yX2_isCalledBy).cls ∈ gz_TB := (gz_in 85 (by decide +kernel) rfl)
theorem ks_X2_isCalledBy : Cond.static yX2_isCalledBy ∈ gz_TB := (gz_in 567 (by decide +kernel) rfl)
theorem kl_RX2_68 : gz_lk 0 RX2 68 mX2_isCalledBy 3 := ⟨kd_X2_isCalledBy, ki_X2_isCalledBy, Or.inl (gz_in 566 (by decide +kernel) rfl), by decide, ⟨by decide +kernel, by decide +kernel, by decide +kernel⟩, fun _ => ks_X2_isCalledBy, fun z => absurd rfl z, fun z => absurd z (by decide), fun z => absurd z (by decide)⟩
theorem kd_X4_greatestDivisor : Cond.code yX4_greatestDivisor cX4_greatestDivisor 11 (some .long) ∈ gz_TB := (gz_in 756 (by decide +kernel) rfl)
theorem ki_X4_greatestDivisor : Cond.initialized (yX4_greatestDivisor).cls ∈ gz_TB := (gz_in 83 (by decide +kernel) rfl)
theorem ks_X4_greatestDivisor : Cond.static yX4_greatestDivisor ∈ gz_TB := (gz_in 755 (by decide +kernel) rfl)
theorem kl_RX4_16 : gz_lk 0 RX4 16 mX4_greatestDivisor 2 := ⟨kd_X4_greatestDivisor, ki_X4_greatestDivisor, Or.inl (gz_in 754 (by decide +kernel) rfl), by decide, ⟨by decide +kernel, by decide +kernel, by decide +kernel⟩, fun _ => ks_X4_greatestDivisor, fun z => absurd rfl z, fun z => absurd z (by decide), fun z => absurd z (by decide)⟩
theorem kd_J7_fill_53178 : Cond.code yJ7_fill_53178 cJ7_fill_53178 4 none ∈ gz_TB := (gz_in 110 (by decide +kernel) rfl)
theorem ki_J7_fill_53178 : Cond.initialized (yJ7_fill_53178).cls ∈ gz_TB := (gz_in 80 (by decide +kernel) rfl)
theorem ks_J7_fill_53178 : Cond.static yJ7_fill_53178 ∈ gz_TB := (gz_in 109 (by decide +kernel) rfl)
theorem kl_RX6_15 : gz_lk 0 RX6 15 mJ7_fill_53178 2 := ⟨kd_J7_fill_53178, ki_J7_fill_53178, Or.inl (gz_in 769 (by decide +kernel) rfl), by decide, ⟨by decide +kernel, by decide +kernel, by decide +kernel⟩, fun _ => ks_J7_fill_53178, fun z => absurd rfl z, fun z => absurd z (by decide), fun z => absurd z (by decide)⟩
theorem kl_RX7_24 : gz_lk 0 RX7 24 mJ7_fill_53178 2 := ⟨kd_J7_fill_53178, ki_J7_fill_53178, Or.inl (gz_in 108 (by decide +kernel) rfl), by decide, ⟨by decide +kernel, by decide +kernel, by decide +kernel⟩, fun _ => ks_J7_fill_53178, fun z => absurd rfl z, fun z => absurd z (by decide), fun z => absurd z (by decide)⟩
theorem kd_X9_in : Cond.code yX9_in cX9_in 6 (some .boolean) ∈ gz_TB := (gz_in 989 (by decide +kernel) rfl)
theorem ki_X9_in : Cond.initialized (yX9_in).cls ∈ gz_TB := (gz_in 88 (by decide +kernel) rfl)
theorem ks_X9_in : Cond.static yX9_in ∈ gz_TB := (gz_in 988 (by decide +kernel) rfl)
theorem kl_RX9_74 : gz_lk 0 RX9 74 mX9_in 3 := ⟨kd_X9_in, ki_X9_in, Or.inl (gz_in 987 (by decide +kernel) rfl), by decide, ⟨by decide +kernel, by decide +kernel, by decide +kernel⟩, fun _ => ks_X9_in, fun z => absurd rfl z, fun z => absurd z (by decide), fun z => absurd z (by decide)⟩
theorem kd_X9_isRow : Cond.code yX9_isRow cX9_isRow 1 (some .boolean) ∈ gz_TB := (gz_in 985 (by decide +kernel) rfl)
theorem ki_X9_isRow : Cond.initialized (yX9_isRow).cls ∈ gz_TB := (gz_in 88 (by decide +kernel) rfl)
theorem ks_X9_isRow : Cond.static yX9_isRow ∈ gz_TB := (gz_in 984 (by decide +kernel) rfl)
theorem kl_RX9_80 : gz_lk 0 RX9 80 mX9_isRow 1 := ⟨kd_X9_isRow, ki_X9_isRow, Or.inl (gz_in 983 (by decide +kernel) rfl), by decide, ⟨by decide +kernel, by decide +kernel, by decide +kernel⟩, fun _ => ks_X9_isRow, fun z => absurd rfl z, fun z => absurd z (by decide), fun z => absurd z (by decide)⟩
theorem kd_X9_isText : Cond.code yX9_isText cX9_isText 1 (some .boolean) ∈ gz_TB := (gz_in 1036 (by decide +kernel) rfl)
theorem ki_X9_isText : Cond.initialized (yX9_isText).cls ∈ gz_TB := (gz_in 88 (by decide +kernel) rfl)
theorem ks_X9_isText : Cond.static yX9_isText ∈ gz_TB := (gz_in 1035 (by decide +kernel) rfl)
theorem kl_RX9_103 : gz_lk 0 RX9 103 mX9_isText 1 := ⟨kd_X9_isText, ki_X9_isText, Or.inl (gz_in 1034 (by decide +kernel) rfl), by decide, ⟨by decide +kernel, by decide +kernel, by decide +kernel⟩, fun _ => ks_X9_isText, fun z => absurd rfl z, fun z => absurd z (by decide), fun z => absurd z (by decide)⟩
theorem kd_X9_kindOfLetter : Cond.code yX9_kindOfLetter cX9_kindOfLetter 1 (some .int) ∈ gz_TB := (gz_in 1078 (by decide +kernel) rfl)
theorem ki_X9_kindOfLetter : Cond.initialized (yX9_kindOfLetter).cls ∈ gz_TB := (gz_in 88 (by decide +kernel) rfl)
theorem ks_X9_kindOfLetter : Cond.static yX9_kindOfLetter ∈ gz_TB := (gz_in 1077 (by decide +kernel) rfl)
theorem kl_RX9_136 : gz_lk 0 RX9 136 mX9_kindOfLetter 1 := ⟨kd_X9_kindOfLetter, ki_X9_kindOfLetter, Or.inl (gz_in 1076 (by decide +kernel) rfl), by decide, ⟨by decide +kernel, by decide +kernel, by decide +kernel⟩, fun _ => ks_X9_kindOfLetter, fun z => absurd rfl z, fun z => absurd z (by decide), fun z => absurd z (by decide)⟩
theorem kd_X9_has : Cond.code yX9_has cX9_has 2 (some .boolean) ∈ gz_TB := (gz_in 1081 (by decide +kernel) rfl)
theorem ki_X9_has : Cond.initialized (yX9_has).cls ∈ gz_TB := (gz_in 88 (by decide +kernel) rfl)
theorem ks_X9_has : Cond.static yX9_has ∈ gz_TB := (gz_in 1080 (by decide +kernel) rfl)
theorem kl_RX9_142 : gz_lk 0 RX9 142 mX9_has 2 := ⟨kd_X9_has, ki_X9_has, Or.inl (gz_in 1079 (by decide +kernel) rfl), by decide, ⟨by decide +kernel, by decide +kernel, by decide +kernel⟩, fun _ => ks_X9_has, fun z => absurd rfl z, fun z => absurd z (by decide), fun z => absurd z (by decide)⟩
theorem kd_X9_isHen : Cond.code yX9_isHen cX9_isHen 1 (some .boolean) ∈ gz_TB := (gz_in 1137 (by decide +kernel) rfl)
theorem ki_X9_isHen : Cond.initialized (yX9_isHen).cls ∈ gz_TB := (gz_in 88 (by decide +kernel) rfl)
theorem ks_X9_isHen : Cond.static yX9_isHen ∈ gz_TB := (gz_in 1136 (by decide +kernel) rfl)
theorem kl_RX9_167 : gz_lk 0 RX9 167 mX9_isHen 1 := ⟨kd_X9_isHen, ki_X9_isHen, Or.inl (gz_in 1135 (by decide +kernel) rfl), by decide, ⟨by decide +kernel, by decide +kernel, by decide +kernel⟩, fun _ => ks_X9_isHen, fun z => absurd rfl z, fun z => absurd z (by decide), fun z => absurd z (by decide)⟩
theorem kd_X9_isGander : Cond.code yX9_isGander cX9_isGander 1 (some .boolean) ∈ gz_TB := (gz_in 1140 (by decide +kernel) rfl)
theorem ki_X9_isGander : Cond.initialized (yX9_isGander).cls ∈ gz_TB := (gz_in 88 (by decide +kernel) rfl)
theorem ks_X9_isGander : Cond.static yX9_isGander ∈ gz_TB := (gz_in 1139 (by decide +kernel) rfl)
theorem kl_RX9_170 : gz_lk 0 RX9 170 mX9_isGander 1 := ⟨kd_X9_isGander, ki_X9_isGander, Or.inl (gz_in 1138 (by decide +kernel) rfl), by decide, ⟨by decide +kernel, by decide +kernel, by decide +kernel⟩, fun _ => ks_X9_isGander, fun z => absurd rfl z, fun z => absurd z (by decide), fun z => absurd z (by decide)⟩
theorem kd_X9_bits : Cond.code yX9_bits cX9_bits 3 (some .int) ∈ gz_TB := (gz_in 1147 (by decide +kernel) rfl)
theorem ki_X9_bits : Cond.initialized (yX9_bits).cls ∈ gz_TB := (gz_in 88 (by decide +kernel) rfl)
theorem ks_X9_bits : Cond.static yX9_bits ∈ gz_TB := (gz_in 1146 (by decide +kernel) rfl)
theorem kl_RX9_193 : gz_lk 0 RX9 193 mX9_bits 1 := ⟨kd_X9_bits, ki_X9_bits, Or.inl (gz_in 1145 (by decide +kernel) rfl), by decide, ⟨by decide +kernel, by decide +kernel, by decide +kernel⟩, fun _ => ks_X9_bits, fun z => absurd rfl z, fun z => absurd z (by decide), fun z => absurd z (by decide)⟩
theorem kd_X9_isPlace : Cond.code yX9_isPlace cX9_isPlace 1 (some .boolean) ∈ gz_TB := (gz_in 1231 (by decide +kernel) rfl)
theorem ki_X9_isPlace : Cond.initialized (yX9_isPlace).cls ∈ gz_TB := (gz_in 88 (by decide +kernel) rfl)
theorem ks_X9_isPlace : Cond.static yX9_isPlace ∈ gz_TB := (gz_in 1230 (by decide +kernel) rfl)
theorem kl_RX9_245 : gz_lk 0 RX9 245 mX9_isPlace 1 := ⟨kd_X9_isPlace, ki_X9_isPlace, Or.inl (gz_in 1229 (by decide +kernel) rfl), by decide, ⟨by decide +kernel, by decide +kernel, by decide +kernel⟩, fun _ => ks_X9_isPlace, fun z => absurd rfl z, fun z => absurd z (by decide), fun z => absurd z (by decide)⟩
theorem kd_X9_isAhead : Cond.code yX9_isAhead cX9_isAhead 3 (some .boolean) ∈ gz_TB := (gz_in 1278 (by decide +kernel) rfl)
theorem ki_X9_isAhead : Cond.initialized (yX9_isAhead).cls ∈ gz_TB := (gz_in 88 (by decide +kernel) rfl)
theorem ks_X9_isAhead : Cond.static yX9_isAhead ∈ gz_TB := (gz_in 1277 (by decide +kernel) rfl)
theorem kl_RX9_266 : gz_lk 0 RX9 266 mX9_isAhead 2 := ⟨kd_X9_isAhead, ki_X9_isAhead, Or.inl (gz_in 1276 (by decide +kernel) rfl), by decide, ⟨by decide +kernel, by decide +kernel, by decide +kernel⟩, fun _ => ks_X9_isAhead, fun z => absurd rfl z, fun z => absurd z (by decide), fun z => absurd z (by decide)⟩
theorem kd_X8_layOut : Cond.code yX8_layOut cX8_layOut 5 (some .int) ∈ gz_TB := (gz_in 331 (by decide +kernel) rfl)
theorem ki_X8_layOut : Cond.initialized (yX8_layOut).cls ∈ gz_TB := (gz_in 78 (by decide +kernel) rfl)
theorem ks_X8_layOut : Cond.instanceMethod yX8_layOut ∈ gz_TB := (gz_in 330 (by decide +kernel) rfl)
theorem kv_X8_layOut : Cond.selects (yX8_layOut).cls yX8_layOut yX8_layOut ∈ gz_TB := (gz_in 0 (by decide +kernel) rfl)
theorem kl_RX8_103 : gz_lk 1 RX8 103 mX8_layOut 4 := ⟨kd_X8_layOut, ki_X8_layOut, Or.inl (gz_in 328 (by decide +kernel) rfl), by decide, ⟨by decide +kernel, by decide +kernel, by decide +kernel⟩, fun z => absurd z (by decide), fun _ => ks_X8_layOut, fun _ => kv_X8_layOut, fun z => absurd z (by decide)⟩
theorem kd_X8_refusalOfCell : Cond.code yX8_refusalOfCell cX8_refusalOfCell 4 (some .int) ∈ gz_TB := (gz_in 351 (by decide +kernel) rfl)
theorem ki_X8_refusalOfCell : Cond.initialized (yX8_refusalOfCell).cls ∈ gz_TB := (gz_in 78 (by decide +kernel) rfl)
theorem ks_X8_refusalOfCell : Cond.instanceMethod yX8_refusalOfCell ∈ gz_TB := (gz_in 350 (by decide +kernel) rfl)
theorem kv_X8_refusalOfCell : Cond.selects (yX8_refusalOfCell).cls yX8_refusalOfCell yX8_refusalOfCell ∈ gz_TB := (gz_in 1 (by decide +kernel) rfl)
theorem kl_RX8_107 : gz_lk 1 RX8 107 mX8_refusalOfCell 3 := ⟨kd_X8_refusalOfCell, ki_X8_refusalOfCell, Or.inl (gz_in 348 (by decide +kernel) rfl), by decide, ⟨by decide +kernel, by decide +kernel, by decide +kernel⟩, fun z => absurd z (by decide), fun _ => ks_X8_refusalOfCell, fun _ => kv_X8_refusalOfCell, fun z => absurd z (by decide)⟩
theorem kd_X7_knows : Cond.code yX7_knows cX7_knows 2 (some .boolean) ∈ gz_TB := (gz_in 335 (by decide +kernel) rfl)
theorem ki_X7_knows : Cond.initialized (yX7_knows).cls ∈ gz_TB := (gz_in 79 (by decide +kernel) rfl)
theorem ks_X7_knows : Cond.instanceMethod yX7_knows ∈ gz_TB := (gz_in 333 (by decide +kernel) rfl)
theorem kv_X7_knows : Cond.selects (yX7_knows).cls yX7_knows yX7_knows ∈ gz_TB := (gz_in 334 (by decide +kernel) rfl)
theorem kl_RX8_118 : gz_lk 1 RX8 118 mX7_knows 1 := ⟨kd_X7_knows, ki_X7_knows, Or.inl (gz_in 332 (by decide +kernel) rfl), by decide, ⟨by decide +kernel, by decide +kernel, by decide +kernel⟩, fun z => absurd z (by decide), fun _ => ks_X7_knows, fun _ => kv_X7_knows, fun z => absurd z (by decide)⟩
theorem kd_X7_has : Cond.code yX7_has cX7_has 2 (some .boolean) ∈ gz_TB := (gz_in 355 (by decide +kernel) rfl)
theorem ki_X7_has : Cond.initialized (yX7_has).cls ∈ gz_TB := (gz_in 79 (by decide +kernel) rfl)
theorem ks_X7_has : Cond.instanceMethod yX7_has ∈ gz_TB := (gz_in 353 (by decide +kernel) rfl)
theorem kv_X7_has : Cond.selects (yX7_has).cls yX7_has yX7_has ∈ gz_TB := (gz_in 354 (by decide +kernel) rfl)
theorem kl_RX8_122 : gz_lk 1 RX8 122 mX7_has 1 := ⟨kd_X7_has, ki_X7_has, Or.inl (gz_in 352 (by decide +kernel) rfl), by decide, ⟨by decide +kernel, by decide +kernel, by decide +kernel⟩, fun z => absurd z (by decide), fun _ => ks_X7_has, fun _ => kv_X7_has, fun z => absurd z (by decide)⟩
theorem kd_X0_answer : Cond.code yX0_answer cX0_answer 2 (some .int) ∈ gz_TB := (gz_in 339 (by decide +kernel) rfl)
theorem ki_X0_answer : Cond.initialized (yX0_answer).cls ∈ gz_TB := (gz_in 82 (by decide +kernel) rfl)
theorem ks_X0_answer : Cond.instanceMethod yX0_answer ∈ gz_TB := (gz_in 337 (by decide +kernel) rfl)
theorem kv_X0_answer : Cond.selects (yX0_answer).cls yX0_answer yX0_answer ∈ gz_TB := (gz_in 338 (by decide +kernel) rfl)
theorem kl_RX8_125 : gz_lk 1 RX8 125 mX0_answer 1 := ⟨kd_X0_answer, ki_X0_answer, Or.inl (gz_in 336 (by decide +kernel) rfl), by decide, ⟨by decide +kernel, by decide +kernel, by decide +kernel⟩, fun z => absurd z (by decide), fun _ => ks_X0_answer, fun _ => kv_X0_answer, fun z => absurd z (by decide)⟩
theorem kd_X7_hasStretch : Cond.code yX7_hasStretch cX7_hasStretch 4 (some .boolean) ∈ gz_TB := (gz_in 371 (by decide +kernel) rfl)
theorem ki_X7_hasStretch : Cond.initialized (yX7_hasStretch).cls ∈ gz_TB := (gz_in 79 (by decide +kernel) rfl)
theorem ks_X7_hasStretch : Cond.instanceMethod yX7_hasStretch ∈ gz_TB := (gz_in 369 (by decide +kernel) rfl)
theorem kv_X7_hasStretch : Cond.selects (yX7_hasStretch).cls yX7_hasStretch yX7_hasStretch ∈ gz_TB := (gz_in 370 (by decide +kernel) rfl)
theorem kl_RX8_132 : gz_lk 1 RX8 132 mX7_hasStretch 3 := ⟨kd_X7_hasStretch, ki_X7_hasStretch, Or.inl (gz_in 368 (by decide +kernel) rfl), by decide, ⟨by decide +kernel, by decide +kernel, by decide +kernel⟩, fun z => absurd z (by decide), fun _ => ks_X7_hasStretch, fun _ => kv_X7_hasStretch, fun z => absurd z (by decide)⟩
theorem kd_X5_readFlock : Cond.code yX5_readFlock cX5_readFlock 5 (some .int) ∈ gz_TB := (gz_in 394 (by decide +kernel) rfl)
theorem ki_X5_readFlock : Cond.initialized (yX5_readFlock).cls ∈ gz_TB := (gz_in 81 (by decide +kernel) rfl)
theorem ks_X5_readFlock : Cond.instanceMethod yX5_readFlock ∈ gz_TB := (gz_in 392 (by decide +kernel) rfl)
theorem kv_X5_readFlock : Cond.selects (yX5_readFlock).cls yX5_readFlock yX5_readFlock ∈ gz_TB := (gz_in 393 (by decide +kernel) rfl)
theorem kl_RX8_142 : gz_lk 1 RX8 142 mX5_readFlock 3 := ⟨kd_X5_readFlock, ki_X5_readFlock, Or.inl (gz_in 391 (by decide +kernel) rfl), by decide, ⟨by decide +kernel, by decide +kernel, by decide +kernel⟩, fun z => absurd z (by decide), fun _ => ks_X5_readFlock, fun _ => kv_X5_readFlock, fun z => absurd z (by decide)⟩
theorem kd_X8_repeatDeeds : Cond.code yX8_repeatDeeds cX8_repeatDeeds 2 none ∈ gz_TB := (gz_in 457 (by decide +kernel) rfl)
theorem ki_X8_repeatDeeds : Cond.initialized (yX8_repeatDeeds).cls ∈ gz_TB := (gz_in 78 (by decide +kernel) rfl)
theorem ks_X8_repeatDeeds : Cond.instanceMethod yX8_repeatDeeds ∈ gz_TB := (gz_in 456 (by decide +kernel) rfl)
theorem kv_X8_repeatDeeds : Cond.selects (yX8_repeatDeeds).cls yX8_repeatDeeds yX8_repeatDeeds ∈ gz_TB := (gz_in 9 (by decide +kernel) rfl)
theorem kl_RX8_146 : gz_lk 1 RX8 146 mX8_repeatDeeds 0 := ⟨kd_X8_repeatDeeds, ki_X8_repeatDeeds, Or.inl (gz_in 454 (by decide +kernel) rfl), by decide, ⟨by decide +kernel, by decide +kernel, by decide +kernel⟩, fun z => absurd z (by decide), fun _ => ks_X8_repeatDeeds, fun _ => kv_X8_repeatDeeds, fun z => absurd z (by decide)⟩
theorem kd_X1_hasGoose : Cond.code yX1_hasGoose cX1_hasGoose 2 (some .boolean) ∈ gz_TB := (gz_in 536 (by decide +kernel) rfl)
theorem ki_X1_hasGoose : Cond.initialized (yX1_hasGoose).cls ∈ gz_TB := (gz_in 87 (by decide +kernel) rfl)
theorem ks_X1_hasGoose : Cond.instanceMethod yX1_hasGoose ∈ gz_TB := (gz_in 534 (by decide +kernel) rfl)
theorem kv_X1_hasGoose : Cond.selects (yX1_hasGoose).cls yX1_hasGoose yX1_hasGoose ∈ gz_TB := (gz_in 535 (by decide +kernel) rfl)
theorem kl_RX8_150 : gz_lk 1 RX8 150 mX1_hasGoose 1 := ⟨kd_X1_hasGoose, ki_X1_hasGoose, Or.inl (gz_in 533 (by decide +kernel) rfl), by decide, ⟨by decide +kernel, by decide +kernel, by decide +kernel⟩, fun z => absurd z (by decide), fun _ => ks_X1_hasGoose, fun _ => kv_X1_hasGoose, fun z => absurd z (by decide)⟩
theorem kd_X2_answer : Cond.code yX2_answer cX2_answer 2 (some .int) ∈ gz_TB := (gz_in 540 (by decide +kernel) rfl)
theorem ki_X2_answer : Cond.initialized (yX2_answer).cls ∈ gz_TB := (gz_in 85 (by decide +kernel) rfl)
theorem ks_X2_answer : Cond.instanceMethod yX2_answer ∈ gz_TB := (gz_in 538 (by decide +kernel) rfl)
theorem kv_X2_answer : Cond.selects (yX2_answer).cls yX2_answer yX2_answer ∈ gz_TB := (gz_in 539 (by decide +kernel) rfl)
theorem kl_RX8_157 : gz_lk 1 RX8 157 mX2_answer 1 := ⟨kd_X2_answer, ki_X2_answer, Or.inl (gz_in 537 (by decide +kernel) rfl), by decide, ⟨by decide +kernel, by decide +kernel, by decide +kernel⟩, fun z => absurd z (by decide), fun _ => ks_X2_answer, fun _ => kv_X2_answer, fun z => absurd z (by decide)⟩
theorem kd_X1_markOf : Cond.code yX1_markOf cX1_markOf 4 (some .int) ∈ gz_TB := (gz_in 552 (by decide +kernel) rfl)
theorem ki_X1_markOf : Cond.initialized (yX1_markOf).cls ∈ gz_TB := (gz_in 87 (by decide +kernel) rfl)
theorem ks_X1_markOf : Cond.instanceMethod yX1_markOf ∈ gz_TB := (gz_in 550 (by decide +kernel) rfl)
theorem kv_X1_markOf : Cond.selects (yX1_markOf).cls yX1_markOf yX1_markOf ∈ gz_TB := (gz_in 551 (by decide +kernel) rfl)
theorem kl_RX8_165 : gz_lk 1 RX8 165 mX1_markOf 2 := ⟨kd_X1_markOf, ki_X1_markOf, Or.inl (gz_in 549 (by decide +kernel) rfl), by decide, ⟨by decide +kernel, by decide +kernel, by decide +kernel⟩, fun z => absurd z (by decide), fun _ => ks_X1_markOf, fun _ => kv_X1_markOf, fun z => absurd z (by decide)⟩
theorem kd_X1_hasFact : Cond.code yX1_hasFact cX1_hasFact 2 (some .boolean) ∈ gz_TB := (gz_in 424 (by decide +kernel) rfl)
theorem ki_X1_hasFact : Cond.initialized (yX1_hasFact).cls ∈ gz_TB := (gz_in 87 (by decide +kernel) rfl)
theorem ks_X1_hasFact : Cond.instanceMethod yX1_hasFact ∈ gz_TB := (gz_in 422 (by decide +kernel) rfl)
theorem kv_X1_hasFact : Cond.selects (yX1_hasFact).cls yX1_hasFact yX1_hasFact ∈ gz_TB := (gz_in 423 (by decide +kernel) rfl)
theorem kl_RX8_169 : gz_lk 1 RX8 169 mX1_hasFact 1 := ⟨kd_X1_hasFact, ki_X1_hasFact, Or.inl (gz_in 589 (by decide +kernel) rfl), by decide, ⟨by decide +kernel, by decide +kernel, by decide +kernel⟩, fun z => absurd z (by decide), fun _ => ks_X1_hasFact, fun _ => kv_X1_hasFact, fun z => absurd z (by decide)⟩
theorem kd_X8_doDeed : Cond.code yX8_doDeed cX8_doDeed 4 (some .int) ∈ gz_TB := (gz_in 597 (by decide +kernel) rfl)
theorem ki_X8_doDeed : Cond.initialized (yX8_doDeed).cls ∈ gz_TB := (gz_in 78 (by decide +kernel) rfl)
theorem ks_X8_doDeed : Cond.instanceMethod yX8_doDeed ∈ gz_TB := (gz_in 596 (by decide +kernel) rfl)
theorem kv_X8_doDeed : Cond.selects (yX8_doDeed).cls yX8_doDeed yX8_doDeed ∈ gz_TB := (gz_in 14 (by decide +kernel) rfl)
theorem kl_RX8_175 : gz_lk 1 RX8 175 mX8_doDeed 3 := ⟨kd_X8_doDeed, ki_X8_doDeed, Or.inl (gz_in 594 (by decide +kernel) rfl), by decide, ⟨by decide +kernel, by decide +kernel, by decide +kernel⟩, fun z => absurd z (by decide), fun _ => ks_X8_doDeed, fun _ => kv_X8_doDeed, fun z => absurd z (by decide)⟩
theorem kd_X1_hasGeese : Cond.code yX1_hasGeese cX1_hasGeese 1 (some .boolean) ∈ gz_TB := (gz_in 625 (by decide +kernel) rfl)
theorem ki_X1_hasGeese : Cond.initialized (yX1_hasGeese).cls ∈ gz_TB := (gz_in 87 (by decide +kernel) rfl)
theorem ks_X1_hasGeese : Cond.instanceMethod yX1_hasGeese ∈ gz_TB := (gz_in 623 (by decide +kernel) rfl)
theorem kv_X1_hasGeese : Cond.selects (yX1_hasGeese).cls yX1_hasGeese yX1_hasGeese ∈ gz_TB := (gz_in 624 (by decide +kernel) rfl)
theorem kl_RX8_183 : gz_lk 1 RX8 183 mX1_hasGeese 0 := ⟨kd_X1_hasGeese, ki_X1_hasGeese, Or.inl (gz_in 622 (by decide +kernel) rfl), by decide, ⟨by decide +kernel, by decide +kernel, by decide +kernel⟩, fun z => absurd z (by decide), fun _ => ks_X1_hasGeese, fun _ => kv_X1_hasGeese, fun z => absurd z (by decide)⟩
theorem kd_X3_become : Cond.code yX3_become cX3_become 2 none ∈ gz_TB := (gz_in 629 (by decide +kernel) rfl)
theorem ki_X3_become : Cond.initialized (yX3_become).cls ∈ gz_TB := (gz_in 86 (by decide +kernel) rfl)
theorem ks_X3_become : Cond.instanceMethod yX3_become ∈ gz_TB := (gz_in 627 (by decide +kernel) rfl)
theorem kv_X3_become : Cond.selects (yX3_become).cls yX3_become yX3_become ∈ gz_TB := (gz_in 628 (by decide +kernel) rfl)
theorem kl_RX8_187 : gz_lk 1 RX8 187 mX3_become 1 := ⟨kd_X3_become, ki_X3_become, Or.inl (gz_in 626 (by decide +kernel) rfl), by decide, ⟨by decide +kernel, by decide +kernel, by decide +kernel⟩, fun z => absurd z (by decide), fun _ => ks_X3_become, fun _ => kv_X3_become, fun z => absurd z (by decide)⟩
theorem kd_X1_toldAt : Cond.code yX1_toldAt cX1_toldAt 3 (some .int) ∈ gz_TB := (gz_in 560 (by decide +kernel) rfl)
theorem ki_X1_toldAt : Cond.initialized (yX1_toldAt).cls ∈ gz_TB := (gz_in 87 (by decide +kernel) rfl)
theorem ks_X1_toldAt : Cond.instanceMethod yX1_toldAt ∈ gz_TB := (gz_in 558 (by decide +kernel) rfl)
theorem kv_X1_toldAt : Cond.selects (yX1_toldAt).cls yX1_toldAt yX1_toldAt ∈ gz_TB := (gz_in 559 (by decide +kernel) rfl)
theorem kl_RX8_191 : gz_lk 1 RX8 191 mX1_toldAt 2 := ⟨kd_X1_toldAt, ki_X1_toldAt, Or.inl (gz_in 639 (by decide +kernel) rfl), by decide, ⟨by decide +kernel, by decide +kernel, by decide +kernel⟩, fun z => absurd z (by decide), fun _ => ks_X1_toldAt, fun _ => kv_X1_toldAt, fun z => absurd z (by decide)⟩
theorem kd_X1_hasGooseSet : Cond.code yX1_hasGooseSet cX1_hasGooseSet 2 (some .boolean) ∈ gz_TB := (gz_in 647 (by decide +kernel) rfl)
theorem ki_X1_hasGooseSet : Cond.initialized (yX1_hasGooseSet).cls ∈ gz_TB := (gz_in 87 (by decide +kernel) rfl)
theorem ks_X1_hasGooseSet : Cond.instanceMethod yX1_hasGooseSet ∈ gz_TB := (gz_in 645 (by decide +kernel) rfl)
theorem kv_X1_hasGooseSet : Cond.selects (yX1_hasGooseSet).cls yX1_hasGooseSet yX1_hasGooseSet ∈ gz_TB := (gz_in 646 (by decide +kernel) rfl)
theorem kl_RX8_194 : gz_lk 1 RX8 194 mX1_hasGooseSet 1 := ⟨kd_X1_hasGooseSet, ki_X1_hasGooseSet, Or.inl (gz_in 644 (by decide +kernel) rfl), by decide, ⟨by decide +kernel, by decide +kernel, by decide +kernel⟩, fun z => absurd z (by decide), fun _ => ks_X1_hasGooseSet, fun _ => kv_X1_hasGooseSet, fun z => absurd z (by decide)⟩
theorem kd_X8_hearAll : Cond.code yX8_hearAll cX8_hearAll 2 none ∈ gz_TB := (gz_in 651 (by decide +kernel) rfl)
theorem ki_X8_hearAll : Cond.initialized (yX8_hearAll).cls ∈ gz_TB := (gz_in 78 (by decide +kernel) rfl)
theorem ks_X8_hearAll : Cond.instanceMethod yX8_hearAll ∈ gz_TB := (gz_in 650 (by decide +kernel) rfl)
theorem kv_X8_hearAll : Cond.selects (yX8_hearAll).cls yX8_hearAll yX8_hearAll ∈ gz_TB := (gz_in 15 (by decide +kernel) rfl)
theorem kl_RX8_197 : gz_lk 1 RX8 197 mX8_hearAll 0 := ⟨kd_X8_hearAll, ki_X8_hearAll, Or.inl (gz_in 648 (by decide +kernel) rfl), by decide, ⟨by decide +kernel, by decide +kernel, by decide +kernel⟩, fun z => absurd z (by decide), fun _ => ks_X8_hearAll, fun _ => kv_X8_hearAll, fun z => absurd z (by decide)⟩
theorem kd_X1_holdersOf : Cond.code yX1_holdersOf cX1_holdersOf 4 (some .int) ∈ gz_TB := (gz_in 666 (by decide +kernel) rfl)
theorem ki_X1_holdersOf : Cond.initialized (yX1_holdersOf).cls ∈ gz_TB := (gz_in 87 (by decide +kernel) rfl)
theorem ks_X1_holdersOf : Cond.instanceMethod yX1_holdersOf ∈ gz_TB := (gz_in 664 (by decide +kernel) rfl)
theorem kv_X1_holdersOf : Cond.selects (yX1_holdersOf).cls yX1_holdersOf yX1_holdersOf ∈ gz_TB := (gz_in 665 (by decide +kernel) rfl)
theorem kl_RX8_207 : gz_lk 1 RX8 207 mX1_holdersOf 1 := ⟨kd_X1_holdersOf, ki_X1_holdersOf, Or.inl (gz_in 663 (by decide +kernel) rfl), by decide, ⟨by decide +kernel, by decide +kernel, by decide +kernel⟩, fun z => absurd z (by decide), fun _ => ks_X1_holdersOf, fun _ => kv_X1_holdersOf, fun z => absurd z (by decide)⟩
theorem kd_X1_heldByNobody : Cond.code yX1_heldByNobody cX1_heldByNobody 1 (some .int) ∈ gz_TB := (gz_in 510 (by decide +kernel) rfl)
theorem ki_X1_heldByNobody : Cond.initialized (yX1_heldByNobody).cls ∈ gz_TB := (gz_in 87 (by decide +kernel) rfl)
theorem ks_X1_heldByNobody : Cond.instanceMethod yX1_heldByNobody ∈ gz_TB := (gz_in 508 (by decide +kernel) rfl)
theorem kv_X1_heldByNobody : Cond.selects (yX1_heldByNobody).cls yX1_heldByNobody yX1_heldByNobody ∈ gz_TB := (gz_in 509 (by decide +kernel) rfl)
theorem kl_RX8_210 : gz_lk 1 RX8 210 mX1_heldByNobody 0 := ⟨kd_X1_heldByNobody, ki_X1_heldByNobody, Or.inl (gz_in 672 (by decide +kernel) rfl), by decide, ⟨by decide +kernel, by decide +kernel, by decide +kernel⟩, fun z => absurd z (by decide), fun _ => ks_X1_heldByNobody, fun _ => kv_X1_heldByNobody, fun z => absurd z (by decide)⟩
theorem kd_X8_firstAndAsked : Cond.code yX8_firstAndAsked cX8_firstAndAsked 2 (some .int) ∈ gz_TB := (gz_in 676 (by decide +kernel) rfl)
theorem ki_X8_firstAndAsked : Cond.initialized (yX8_firstAndAsked).cls ∈ gz_TB := (gz_in 78 (by decide +kernel) rfl)
theorem ks_X8_firstAndAsked : Cond.instanceMethod yX8_firstAndAsked ∈ gz_TB := (gz_in 675 (by decide +kernel) rfl)
theorem kv_X8_firstAndAsked : Cond.selects (yX8_firstAndAsked).cls yX8_firstAndAsked yX8_firstAndAsked ∈ gz_TB := (gz_in 16 (by decide +kernel) rfl)
theorem kl_RX8_214 : gz_lk 1 RX8 214 mX8_firstAndAsked 1 := ⟨kd_X8_firstAndAsked, ki_X8_firstAndAsked, Or.inl (gz_in 673 (by decide +kernel) rfl), by decide, ⟨by decide +kernel, by decide +kernel, by decide +kernel⟩, fun z => absurd z (by decide), fun _ => ks_X8_firstAndAsked, fun _ => kv_X8_firstAndAsked, fun z => absurd z (by decide)⟩
theorem kd_X1_heldBySome : Cond.code yX1_heldBySome cX1_heldBySome 1 (some .int) ∈ gz_TB := (gz_in 514 (by decide +kernel) rfl)
theorem ki_X1_heldBySome : Cond.initialized (yX1_heldBySome).cls ∈ gz_TB := (gz_in 87 (by decide +kernel) rfl)
theorem ks_X1_heldBySome : Cond.instanceMethod yX1_heldBySome ∈ gz_TB := (gz_in 512 (by decide +kernel) rfl)
theorem kv_X1_heldBySome : Cond.selects (yX1_heldBySome).cls yX1_heldBySome yX1_heldBySome ∈ gz_TB := (gz_in 513 (by decide +kernel) rfl)
theorem kl_RX8_217 : gz_lk 1 RX8 217 mX1_heldBySome 0 := ⟨kd_X1_heldBySome, ki_X1_heldBySome, Or.inl (gz_in 686 (by decide +kernel) rfl), by decide, ⟨by decide +kernel, by decide +kernel, by decide +kernel⟩, fun z => absurd z (by decide), fun _ => ks_X1_heldBySome, fun _ => kv_X1_heldBySome, fun z => absurd z (by decide)⟩
theorem kd_X1_hasFactSet : Cond.code yX1_hasFactSet cX1_hasFactSet 2 (some .boolean) ∈ gz_TB := (gz_in 694 (by decide +kernel) rfl)
theorem ki_X1_hasFactSet : Cond.initialized (yX1_hasFactSet).cls ∈ gz_TB := (gz_in 87 (by decide +kernel) rfl)
theorem ks_X1_hasFactSet : Cond.instanceMethod yX1_hasFactSet ∈ gz_TB := (gz_in 692 (by decide +kernel) rfl)
theorem kv_X1_hasFactSet : Cond.selects (yX1_hasFactSet).cls yX1_hasFactSet yX1_hasFactSet ∈ gz_TB := (gz_in 693 (by decide +kernel) rfl)
theorem kl_RX8_220 : gz_lk 1 RX8 220 mX1_hasFactSet 1 := ⟨kd_X1_hasFactSet, ki_X1_hasFactSet, Or.inl (gz_in 691 (by decide +kernel) rfl), by decide, ⟨by decide +kernel, by decide +kernel, by decide +kernel⟩, fun z => absurd z (by decide), fun _ => ks_X1_hasFactSet, fun _ => kv_X1_hasFactSet, fun z => absurd z (by decide)⟩
theorem kd_X8_shortestWalk : Cond.code yX8_shortestWalk cX8_shortestWalk 5 (some .int) ∈ gz_TB := (gz_in 698 (by decide +kernel) rfl)
theorem ki_X8_shortestWalk : Cond.initialized (yX8_shortestWalk).cls ∈ gz_TB := (gz_in 78 (by decide +kernel) rfl)
theorem ks_X8_shortestWalk : Cond.instanceMethod yX8_shortestWalk ∈ gz_TB := (gz_in 697 (by decide +kernel) rfl)
theorem kv_X8_shortestWalk : Cond.selects (yX8_shortestWalk).cls yX8_shortestWalk yX8_shortestWalk ∈ gz_TB := (gz_in 17 (by decide +kernel) rfl)
theorem kl_RX8_223 : gz_lk 1 RX8 223 mX8_shortestWalk 2 := ⟨kd_X8_shortestWalk, ki_X8_shortestWalk, Or.inl (gz_in 695 (by decide +kernel) rfl), by decide, ⟨by decide +kernel, by decide +kernel, by decide +kernel⟩, fun z => absurd z (by decide), fun _ => ks_X8_shortestWalk, fun _ => kv_X8_shortestWalk, fun z => absurd z (by decide)⟩
theorem kd_X7_make : Cond.code yX7_make cX7_make 4 none ∈ gz_TB := (gz_in 343 (by decide +kernel) rfl)
theorem ki_X7_make : Cond.initialized (yX7_make).cls ∈ gz_TB := (gz_in 79 (by decide +kernel) rfl)
theorem ks_X7_make : Cond.instanceMethod yX7_make ∈ gz_TB := (gz_in 341 (by decide +kernel) rfl)
theorem kv_X7_make : Cond.selects (yX7_make).cls yX7_make yX7_make ∈ gz_TB := (gz_in 342 (by decide +kernel) rfl)
theorem kl_RX8_231 : gz_lk 1 RX8 231 mX7_make 3 := ⟨kd_X7_make, ki_X7_make, Or.inl (gz_in 340 (by decide +kernel) rfl), by decide, ⟨by decide +kernel, by decide +kernel, by decide +kernel⟩, fun z => absurd z (by decide), fun _ => ks_X7_make, fun _ => kv_X7_make, fun z => absurd z (by decide)⟩
theorem kd_X1_listTellings : Cond.code yX1_listTellings cX1_listTellings 6 (some .int) ∈ gz_TB := (gz_in 713 (by decide +kernel) rfl)
theorem ki_X1_listTellings : Cond.initialized (yX1_listTellings).cls ∈ gz_TB := (gz_in 87 (by decide +kernel) rfl)
theorem ks_X1_listTellings : Cond.instanceMethod yX1_listTellings ∈ gz_TB := (gz_in 711 (by decide +kernel) rfl)
theorem kv_X1_listTellings : Cond.selects (yX1_listTellings).cls yX1_listTellings yX1_listTellings ∈ gz_TB := (gz_in 712 (by decide +kernel) rfl)
theorem kl_RX8_235 : gz_lk 1 RX8 235 mX1_listTellings 1 := ⟨kd_X1_listTellings, ki_X1_listTellings, Or.inl (gz_in 710 (by decide +kernel) rfl), by decide, ⟨by decide +kernel, by decide +kernel, by decide +kernel⟩, fun z => absurd z (by decide), fun _ => ks_X1_listTellings, fun _ => kv_X1_listTellings, fun z => absurd z (by decide)⟩
theorem kd_X8_cheapest : Cond.code yX8_cheapest cX8_cheapest 6 (some .int) ∈ gz_TB := (gz_in 717 (by decide +kernel) rfl)
theorem ki_X8_cheapest : Cond.initialized (yX8_cheapest).cls ∈ gz_TB := (gz_in 78 (by decide +kernel) rfl)
theorem ks_X8_cheapest : Cond.instanceMethod yX8_cheapest ∈ gz_TB := (gz_in 716 (by decide +kernel) rfl)
theorem kv_X8_cheapest : Cond.selects (yX8_cheapest).cls yX8_cheapest yX8_cheapest ∈ gz_TB := (gz_in 18 (by decide +kernel) rfl)
theorem kl_RX8_239 : gz_lk 1 RX8 239 mX8_cheapest 2 := ⟨kd_X8_cheapest, ki_X8_cheapest, Or.inl (gz_in 714 (by decide +kernel) rfl), by decide, ⟨by decide +kernel, by decide +kernel, by decide +kernel⟩, fun z => absurd z (by decide), fun _ => ks_X8_cheapest, fun _ => kv_X8_cheapest, fun z => absurd z (by decide)⟩
theorem kd_X1_heldOnlyBy : Cond.code yX1_heldOnlyBy cX1_heldOnlyBy 2 (some .int) ∈ gz_TB := (gz_in 584 (by decide +kernel) rfl)
theorem ki_X1_heldOnlyBy : Cond.initialized (yX1_heldOnlyBy).cls ∈ gz_TB := (gz_in 87 (by decide +kernel) rfl)
theorem ks_X1_heldOnlyBy : Cond.instanceMethod yX1_heldOnlyBy ∈ gz_TB := (gz_in 582 (by decide +kernel) rfl)
theorem kv_X1_heldOnlyBy : Cond.selects (yX1_heldOnlyBy).cls yX1_heldOnlyBy yX1_heldOnlyBy ∈ gz_TB := (gz_in 583 (by decide +kernel) rfl)
theorem kl_RX8_242 : gz_lk 1 RX8 242 mX1_heldOnlyBy 1 := ⟨kd_X1_heldOnlyBy, ki_X1_heldOnlyBy, Or.inl (gz_in 725 (by decide +kernel) rfl), by decide, ⟨by decide +kernel, by decide +kernel, by decide +kernel⟩, fun z => absurd z (by decide), fun _ => ks_X1_heldOnlyBy, fun _ => kv_X1_heldOnlyBy, fun z => absurd z (by decide)⟩
theorem kd_X1_aliveSet : Cond.code yX1_aliveSet cX1_aliveSet 3 (some .int) ∈ gz_TB := (gz_in 736 (by decide +kernel) rfl)
theorem ki_X1_aliveSet : Cond.initialized (yX1_aliveSet).cls ∈ gz_TB := (gz_in 87 (by decide +kernel) rfl)
theorem ks_X1_aliveSet : Cond.instanceMethod yX1_aliveSet ∈ gz_TB := (gz_in 734 (by decide +kernel) rfl)
theorem kv_X1_aliveSet : Cond.selects (yX1_aliveSet).cls yX1_aliveSet yX1_aliveSet ∈ gz_TB := (gz_in 735 (by decide +kernel) rfl)
theorem kl_RX8_253 : gz_lk 1 RX8 253 mX1_aliveSet 0 := ⟨kd_X1_aliveSet, ki_X1_aliveSet, Or.inl (gz_in 733 (by decide +kernel) rfl), by decide, ⟨by decide +kernel, by decide +kernel, by decide +kernel⟩, fun z => absurd z (by decide), fun _ => ks_X1_aliveSet, fun _ => kv_X1_aliveSet, fun z => absurd z (by decide)⟩
theorem kd_X8_cutBy : Cond.code yX8_cutBy cX8_cutBy 4 (some .int) ∈ gz_TB := (gz_in 740 (by decide +kernel) rfl)
theorem ki_X8_cutBy : Cond.initialized (yX8_cutBy).cls ∈ gz_TB := (gz_in 78 (by decide +kernel) rfl)
theorem ks_X8_cutBy : Cond.instanceMethod yX8_cutBy ∈ gz_TB := (gz_in 739 (by decide +kernel) rfl)
theorem kv_X8_cutBy : Cond.selects (yX8_cutBy).cls yX8_cutBy yX8_cutBy ∈ gz_TB := (gz_in 19 (by decide +kernel) rfl)
theorem kl_RX8_256 : gz_lk 1 RX8 256 mX8_cutBy 1 := ⟨kd_X8_cutBy, ki_X8_cutBy, Or.inl (gz_in 737 (by decide +kernel) rfl), by decide, ⟨by decide +kernel, by decide +kernel, by decide +kernel⟩, fun z => absurd z (by decide), fun _ => ks_X8_cutBy, fun _ => kv_X8_cutBy, fun z => absurd z (by decide)⟩
theorem kd_X4_become : Cond.code yX4_become cX4_become 7 none ∈ gz_TB := (gz_in 753 (by decide +kernel) rfl)
theorem ki_X4_become : Cond.initialized (yX4_become).cls ∈ gz_TB := (gz_in 83 (by decide +kernel) rfl)
theorem ks_X4_become : Cond.instanceMethod yX4_become ∈ gz_TB := (gz_in 751 (by decide +kernel) rfl)
theorem kv_X4_become : Cond.selects (yX4_become).cls yX4_become yX4_become ∈ gz_TB := (gz_in 752 (by decide +kernel) rfl)
theorem kl_RX8_261 : gz_lk 1 RX8 261 mX4_become 2 := ⟨kd_X4_become, ki_X4_become, Or.inl (gz_in 750 (by decide +kernel) rfl), by decide, ⟨by decide +kernel, by decide +kernel, by decide +kernel⟩, fun z => absurd z (by decide), fun _ => ks_X4_become, fun _ => kv_X4_become, fun z => absurd z (by decide)⟩
theorem kd_X8_readReport : Cond.code yX8_readReport cX8_readReport 6 (some .int) ∈ gz_TB := (gz_in 764 (by decide +kernel) rfl)
theorem ki_X8_readReport : Cond.initialized (yX8_readReport).cls ∈ gz_TB := (gz_in 78 (by decide +kernel) rfl)
theorem ks_X8_readReport : Cond.instanceMethod yX8_readReport ∈ gz_TB := (gz_in 763 (by decide +kernel) rfl)
theorem kv_X8_readReport : Cond.selects (yX8_readReport).cls yX8_readReport yX8_readReport ∈ gz_TB := (gz_in 20 (by decide +kernel) rfl)
theorem kl_RX8_267 : gz_lk 1 RX8 267 mX8_readReport 1 := ⟨kd_X8_readReport, ki_X8_readReport, Or.inl (gz_in 761 (by decide +kernel) rfl), by decide, ⟨by decide +kernel, by decide +kernel, by decide +kernel⟩, fun z => absurd z (by decide), fun _ => ks_X8_readReport, fun _ => kv_X8_readReport, fun z => absurd z (by decide)⟩
theorem kd_X2_become : Cond.code yX2_become cX2_become 4 none ∈ gz_TB := (gz_in 420 (by decide +kernel) rfl)
theorem ki_X2_become : Cond.initialized (yX2_become).cls ∈ gz_TB := (gz_in 85 (by decide +kernel) rfl)
theorem ks_X2_become : Cond.instanceMethod yX2_become ∈ gz_TB := (gz_in 418 (by decide +kernel) rfl)
theorem kv_X2_become : Cond.selects (yX2_become).cls yX2_become yX2_become ∈ gz_TB := (gz_in 419 (by decide +kernel) rfl)
theorem kl_RX8_273 : gz_lk 1 RX8 273 mX2_become 3 := ⟨kd_X2_become, ki_X2_become, Or.inl (gz_in 770 (by decide +kernel) rfl), by decide, ⟨by decide +kernel, by decide +kernel, by decide +kernel⟩, fun z => absurd z (by decide), fun _ => ks_X2_become, fun _ => kv_X2_become, fun z => absurd z (by decide)⟩
theorem kd_X6_fits : Cond.code yX6_fits cX6_fits 5 (some .boolean) ∈ gz_TB := (gz_in 777 (by decide +kernel) rfl)
theorem ki_X6_fits : Cond.initialized (yX6_fits).cls ∈ gz_TB := (gz_in 84 (by decide +kernel) rfl)
theorem ks_X6_fits : Cond.instanceMethod yX6_fits ∈ gz_TB := (gz_in 775 (by decide +kernel) rfl)
theorem kv_X6_fits : Cond.selects (yX6_fits).cls yX6_fits yX6_fits ∈ gz_TB := (gz_in 776 (by decide +kernel) rfl)
theorem kl_RX8_279 : gz_lk 1 RX8 279 mX6_fits 3 := ⟨kd_X6_fits, ki_X6_fits, Or.inl (gz_in 774 (by decide +kernel) rfl), by decide, ⟨by decide +kernel, by decide +kernel, by decide +kernel⟩, fun z => absurd z (by decide), fun _ => ks_X6_fits, fun _ => kv_X6_fits, fun z => absurd z (by decide)⟩
theorem kd_X1_heldBySet : Cond.code yX1_heldBySet cX1_heldBySet 4 (some .int) ∈ gz_TB := (gz_in 518 (by decide +kernel) rfl)
theorem ki_X1_heldBySet : Cond.initialized (yX1_heldBySet).cls ∈ gz_TB := (gz_in 87 (by decide +kernel) rfl)
theorem ks_X1_heldBySet : Cond.instanceMethod yX1_heldBySet ∈ gz_TB := (gz_in 516 (by decide +kernel) rfl)
theorem kv_X1_heldBySet : Cond.selects (yX1_heldBySet).cls yX1_heldBySet yX1_heldBySet ∈ gz_TB := (gz_in 517 (by decide +kernel) rfl)
theorem kl_RX8_283 : gz_lk 1 RX8 283 mX1_heldBySet 1 := ⟨kd_X1_heldBySet, ki_X1_heldBySet, Or.inl (gz_in 790 (by decide +kernel) rfl), by decide, ⟨by decide +kernel, by decide +kernel, by decide +kernel⟩, fun z => absurd z (by decide), fun _ => ks_X1_heldBySet, fun _ => kv_X1_heldBySet, fun z => absurd z (by decide)⟩
theorem kd_X1_waysToReturn : Cond.code yX1_waysToReturn cX1_waysToReturn 7 (some .long) ∈ gz_TB := (gz_in 794 (by decide +kernel) rfl)
theorem ki_X1_waysToReturn : Cond.initialized (yX1_waysToReturn).cls ∈ gz_TB := (gz_in 87 (by decide +kernel) rfl)
theorem ks_X1_waysToReturn : Cond.instanceMethod yX1_waysToReturn ∈ gz_TB := (gz_in 792 (by decide +kernel) rfl)
theorem kv_X1_waysToReturn : Cond.selects (yX1_waysToReturn).cls yX1_waysToReturn yX1_waysToReturn ∈ gz_TB := (gz_in 793 (by decide +kernel) rfl)
theorem kl_RX8_286 : gz_lk 1 RX8 286 mX1_waysToReturn 2 := ⟨kd_X1_waysToReturn, ki_X1_waysToReturn, Or.inl (gz_in 791 (by decide +kernel) rfl), by decide, ⟨by decide +kernel, by decide +kernel, by decide +kernel⟩, fun z => absurd z (by decide), fun _ => ks_X1_waysToReturn, fun _ => kv_X1_waysToReturn, fun z => absurd z (by decide)⟩
theorem kd_X1_alive : Cond.code yX1_alive cX1_alive 1 (some .int) ∈ gz_TB := (gz_in 798 (by decide +kernel) rfl)
theorem ki_X1_alive : Cond.initialized (yX1_alive).cls ∈ gz_TB := (gz_in 87 (by decide +kernel) rfl)
theorem ks_X1_alive : Cond.instanceMethod yX1_alive ∈ gz_TB := (gz_in 796 (by decide +kernel) rfl)
theorem kv_X1_alive : Cond.selects (yX1_alive).cls yX1_alive yX1_alive ∈ gz_TB := (gz_in 797 (by decide +kernel) rfl)
theorem kl_RX8_290 : gz_lk 1 RX8 290 mX1_alive 0 := ⟨kd_X1_alive, ki_X1_alive, Or.inl (gz_in 795 (by decide +kernel) rfl), by decide, ⟨by decide +kernel, by decide +kernel, by decide +kernel⟩, fun z => absurd z (by decide), fun _ => ks_X1_alive, fun _ => kv_X1_alive, fun z => absurd z (by decide)⟩
theorem kd_X8_doByLot : Cond.code yX8_doByLot cX8_doByLot 4 none ∈ gz_TB := (gz_in 817 (by decide +kernel) rfl)
theorem ki_X8_doByLot : Cond.initialized (yX8_doByLot).cls ∈ gz_TB := (gz_in 78 (by decide +kernel) rfl)
theorem ks_X8_doByLot : Cond.instanceMethod yX8_doByLot ∈ gz_TB := (gz_in 816 (by decide +kernel) rfl)
theorem kv_X8_doByLot : Cond.selects (yX8_doByLot).cls yX8_doByLot yX8_doByLot ∈ gz_TB := (gz_in 21 (by decide +kernel) rfl)
theorem kl_RX8_301 : gz_lk 1 RX8 301 mX8_doByLot 1 := ⟨kd_X8_doByLot, ki_X8_doByLot, Or.inl (gz_in 814 (by decide +kernel) rfl), by decide, ⟨by decide +kernel, by decide +kernel, by decide +kernel⟩, fun z => absurd z (by decide), fun _ => ks_X8_doByLot, fun _ => kv_X8_doByLot, fun z => absurd z (by decide)⟩
theorem kd_X8_countOf : Cond.code yX8_countOf cX8_countOf 2 (some .int) ∈ gz_TB := (gz_in 840 (by decide +kernel) rfl)
theorem ki_X8_countOf : Cond.initialized (yX8_countOf).cls ∈ gz_TB := (gz_in 78 (by decide +kernel) rfl)
theorem ks_X8_countOf : Cond.instanceMethod yX8_countOf ∈ gz_TB := (gz_in 839 (by decide +kernel) rfl)
theorem kv_X8_countOf : Cond.selects (yX8_countOf).cls yX8_countOf yX8_countOf ∈ gz_TB := (gz_in 22 (by decide +kernel) rfl)
theorem kl_RX8_312 : gz_lk 1 RX8 312 mX8_countOf 1 := ⟨kd_X8_countOf, ki_X8_countOf, Or.inl (gz_in 837 (by decide +kernel) rfl), by decide, ⟨by decide +kernel, by decide +kernel, by decide +kernel⟩, fun z => absurd z (by decide), fun _ => ks_X8_countOf, fun _ => kv_X8_countOf, fun z => absurd z (by decide)⟩
theorem kd_X1_digestFrom : Cond.code yX1_digestFrom cX1_digestFrom 6 (some .long) ∈ gz_TB := (gz_in 872 (by decide +kernel) rfl)
theorem ki_X1_digestFrom : Cond.initialized (yX1_digestFrom).cls ∈ gz_TB := (gz_in 87 (by decide +kernel) rfl)
theorem ks_X1_digestFrom : Cond.instanceMethod yX1_digestFrom ∈ gz_TB := (gz_in 870 (by decide +kernel) rfl)
theorem kv_X1_digestFrom : Cond.selects (yX1_digestFrom).cls yX1_digestFrom yX1_digestFrom ∈ gz_TB := (gz_in 871 (by decide +kernel) rfl)
theorem kl_RX8_325 : gz_lk 1 RX8 325 mX1_digestFrom 1 := ⟨kd_X1_digestFrom, ki_X1_digestFrom, Or.inl (gz_in 869 (by decide +kernel) rfl), by decide, ⟨by decide +kernel, by decide +kernel, by decide +kernel⟩, fun z => absurd z (by decide), fun _ => ks_X1_digestFrom, fun _ => kv_X1_digestFrom, fun z => absurd z (by decide)⟩
theorem kd_X7_digestFrom : Cond.code yX7_digestFrom cX7_digestFrom 7 (some .long) ∈ gz_TB := (gz_in 883 (by decide +kernel) rfl)
theorem ki_X7_digestFrom : Cond.initialized (yX7_digestFrom).cls ∈ gz_TB := (gz_in 79 (by decide +kernel) rfl)
theorem ks_X7_digestFrom : Cond.instanceMethod yX7_digestFrom ∈ gz_TB := (gz_in 881 (by decide +kernel) rfl)
theorem kv_X7_digestFrom : Cond.selects (yX7_digestFrom).cls yX7_digestFrom yX7_digestFrom ∈ gz_TB := (gz_in 882 (by decide +kernel) rfl)
theorem kl_RX8_329 : gz_lk 1 RX8 329 mX7_digestFrom 1 := ⟨kd_X7_digestFrom, ki_X7_digestFrom, Or.inl (gz_in 880 (by decide +kernel) rfl), by decide, ⟨by decide +kernel, by decide +kernel, by decide +kernel⟩, fun z => absurd z (by decide), fun _ => ks_X7_digestFrom, fun _ => kv_X7_digestFrom, fun z => absurd z (by decide)⟩
theorem kd_X6_readPairs : Cond.code yX6_readPairs cX6_readPairs 5 none ∈ gz_TB := (gz_in 768 (by decide +kernel) rfl)
theorem ki_X6_readPairs : Cond.initialized (yX6_readPairs).cls ∈ gz_TB := (gz_in 84 (by decide +kernel) rfl)
theorem ks_X6_readPairs : Cond.instanceMethod yX6_readPairs ∈ gz_TB := (gz_in 766 (by decide +kernel) rfl)
theorem kv_X6_readPairs : Cond.selects (yX6_readPairs).cls yX6_readPairs yX6_readPairs ∈ gz_TB := (gz_in 767 (by decide +kernel) rfl)
theorem kl_RX8_333 : gz_lk 1 RX8 333 mX6_readPairs 2 := ⟨kd_X6_readPairs, ki_X6_readPairs, Or.inl (gz_in 765 (by decide +kernel) rfl), by decide, ⟨by decide +kernel, by decide +kernel, by decide +kernel⟩, fun z => absurd z (by decide), fun _ => ks_X6_readPairs, fun _ => kv_X6_readPairs, fun z => absurd z (by decide)⟩
theorem kd_X1_countOfKind : Cond.code yX1_countOfKind cX1_countOfKind 4 (some .int) ∈ gz_TB := (gz_in 844 (by decide +kernel) rfl)
theorem ki_X1_countOfKind : Cond.initialized (yX1_countOfKind).cls ∈ gz_TB := (gz_in 87 (by decide +kernel) rfl)
theorem ks_X1_countOfKind : Cond.instanceMethod yX1_countOfKind ∈ gz_TB := (gz_in 842 (by decide +kernel) rfl)
theorem kv_X1_countOfKind : Cond.selects (yX1_countOfKind).cls yX1_countOfKind yX1_countOfKind ∈ gz_TB := (gz_in 843 (by decide +kernel) rfl)
theorem kl_RX8_337 : gz_lk 1 RX8 337 mX1_countOfKind 1 := ⟨kd_X1_countOfKind, ki_X1_countOfKind, Or.inl (gz_in 841 (by decide +kernel) rfl), by decide, ⟨by decide +kernel, by decide +kernel, by decide +kernel⟩, fun z => absurd z (by decide), fun _ => ks_X1_countOfKind, fun _ => kv_X1_countOfKind, fun z => absurd z (by decide)⟩
theorem kd_X7_there : Cond.code yX7_there cX7_there 3 (some .int) ∈ gz_TB := (gz_in 849 (by decide +kernel) rfl)
theorem ki_X7_there : Cond.initialized (yX7_there).cls ∈ gz_TB := (gz_in 79 (by decide +kernel) rfl)
theorem ks_X7_there : Cond.instanceMethod yX7_there ∈ gz_TB := (gz_in 847 (by decide +kernel) rfl)
theorem kv_X7_there : Cond.selects (yX7_there).cls yX7_there yX7_there ∈ gz_TB := (gz_in 848 (by decide +kernel) rfl)
theorem kl_RX8_340 : gz_lk 1 RX8 340 mX7_there 0 := ⟨kd_X7_there, ki_X7_there, Or.inl (gz_in 846 (by decide +kernel) rfl), by decide, ⟨by decide +kernel, by decide +kernel, by decide +kernel⟩, fun z => absurd z (by decide), fun _ => ks_X7_there, fun _ => kv_X7_there, fun z => absurd z (by decide)⟩
theorem kd_X8_keptFlocks : Cond.code yX8_keptFlocks cX8_keptFlocks 3 (some .int) ∈ gz_TB := (gz_in 854 (by decide +kernel) rfl)
theorem ki_X8_keptFlocks : Cond.initialized (yX8_keptFlocks).cls ∈ gz_TB := (gz_in 78 (by decide +kernel) rfl)
theorem ks_X8_keptFlocks : Cond.instanceMethod yX8_keptFlocks ∈ gz_TB := (gz_in 853 (by decide +kernel) rfl)
theorem kv_X8_keptFlocks : Cond.selects (yX8_keptFlocks).cls yX8_keptFlocks yX8_keptFlocks ∈ gz_TB := (gz_in 23 (by decide +kernel) rfl)
theorem kl_RX8_343 : gz_lk 1 RX8 343 mX8_keptFlocks 0 := ⟨kd_X8_keptFlocks, ki_X8_keptFlocks, Or.inl (gz_in 851 (by decide +kernel) rfl), by decide, ⟨by decide +kernel, by decide +kernel, by decide +kernel⟩, fun z => absurd z (by decide), fun _ => ks_X8_keptFlocks, fun _ => kv_X8_keptFlocks, fun z => absurd z (by decide)⟩
theorem kd_X3_note : Cond.code yX3_note cX3_note 4 none ∈ gz_TB := (gz_in 601 (by decide +kernel) rfl)
theorem ki_X3_note : Cond.initialized (yX3_note).cls ∈ gz_TB := (gz_in 86 (by decide +kernel) rfl)
theorem ks_X3_note : Cond.instanceMethod yX3_note ∈ gz_TB := (gz_in 599 (by decide +kernel) rfl)
theorem kv_X3_note : Cond.selects (yX3_note).cls yX3_note yX3_note ∈ gz_TB := (gz_in 600 (by decide +kernel) rfl)
theorem kl_RX8_346 : gz_lk 1 RX8 346 mX3_note 3 := ⟨kd_X3_note, ki_X3_note, Or.inl (gz_in 598 (by decide +kernel) rfl), by decide, ⟨by decide +kernel, by decide +kernel, by decide +kernel⟩, fun z => absurd z (by decide), fun _ => ks_X3_note, fun _ => kv_X3_note, fun z => absurd z (by decide)⟩
theorem kd_X1_perform : Cond.code yX1_perform cX1_perform 4 (some .int) ∈ gz_TB := (gz_in 484 (by decide +kernel) rfl)
theorem ki_X1_perform : Cond.initialized (yX1_perform).cls ∈ gz_TB := (gz_in 87 (by decide +kernel) rfl)
theorem ks_X1_perform : Cond.instanceMethod yX1_perform ∈ gz_TB := (gz_in 482 (by decide +kernel) rfl)
theorem kv_X1_perform : Cond.selects (yX1_perform).cls yX1_perform yX1_perform ∈ gz_TB := (gz_in 483 (by decide +kernel) rfl)
theorem kl_RX8_349 : gz_lk 1 RX8 349 mX1_perform 3 := ⟨kd_X1_perform, ki_X1_perform, Or.inl (gz_in 481 (by decide +kernel) rfl), by decide, ⟨by decide +kernel, by decide +kernel, by decide +kernel⟩, fun z => absurd z (by decide), fun _ => ks_X1_perform, fun _ => kv_X1_perform, fun z => absurd z (by decide)⟩
theorem kd_X1_become : Cond.code yX1_become cX1_become 3 none ∈ gz_TB := (gz_in 461 (by decide +kernel) rfl)
theorem ki_X1_become : Cond.initialized (yX1_become).cls ∈ gz_TB := (gz_in 87 (by decide +kernel) rfl)
theorem ks_X1_become : Cond.instanceMethod yX1_become ∈ gz_TB := (gz_in 459 (by decide +kernel) rfl)
theorem kv_X1_become : Cond.selects (yX1_become).cls yX1_become yX1_become ∈ gz_TB := (gz_in 460 (by decide +kernel) rfl)
theorem kl_RX8_358 : gz_lk 1 RX8 358 mX1_become 1 := ⟨kd_X1_become, ki_X1_become, Or.inl (gz_in 458 (by decide +kernel) rfl), by decide, ⟨by decide +kernel, by decide +kernel, by decide +kernel⟩, fun z => absurd z (by decide), fun _ => ks_X1_become, fun _ => kv_X1_become, fun z => absurd z (by decide)⟩
theorem kd_X3_deedAt : Cond.code yX3_deedAt cX3_deedAt 2 (some .int) ∈ gz_TB := (gz_in 472 (by decide +kernel) rfl)
theorem ki_X3_deedAt : Cond.initialized (yX3_deedAt).cls ∈ gz_TB := (gz_in 86 (by decide +kernel) rfl)
theorem ks_X3_deedAt : Cond.instanceMethod yX3_deedAt ∈ gz_TB := (gz_in 470 (by decide +kernel) rfl)
theorem kv_X3_deedAt : Cond.selects (yX3_deedAt).cls yX3_deedAt yX3_deedAt ∈ gz_TB := (gz_in 471 (by decide +kernel) rfl)
theorem kl_RX8_361 : gz_lk 1 RX8 361 mX3_deedAt 1 := ⟨kd_X3_deedAt, ki_X3_deedAt, Or.inl (gz_in 469 (by decide +kernel) rfl), by decide, ⟨by decide +kernel, by decide +kernel, by decide +kernel⟩, fun z => absurd z (by decide), fun _ => ks_X3_deedAt, fun _ => kv_X3_deedAt, fun z => absurd z (by decide)⟩
theorem kd_X3_doneTo : Cond.code yX3_doneTo cX3_doneTo 2 (some .int) ∈ gz_TB := (gz_in 476 (by decide +kernel) rfl)
theorem ki_X3_doneTo : Cond.initialized (yX3_doneTo).cls ∈ gz_TB := (gz_in 86 (by decide +kernel) rfl)
theorem ks_X3_doneTo : Cond.instanceMethod yX3_doneTo ∈ gz_TB := (gz_in 474 (by decide +kernel) rfl)
theorem kv_X3_doneTo : Cond.selects (yX3_doneTo).cls yX3_doneTo yX3_doneTo ∈ gz_TB := (gz_in 475 (by decide +kernel) rfl)
theorem kl_RX8_364 : gz_lk 1 RX8 364 mX3_doneTo 1 := ⟨kd_X3_doneTo, ki_X3_doneTo, Or.inl (gz_in 473 (by decide +kernel) rfl), by decide, ⟨by decide +kernel, by decide +kernel, by decide +kernel⟩, fun z => absurd z (by decide), fun _ => ks_X3_doneTo, fun _ => kv_X3_doneTo, fun z => absurd z (by decide)⟩
theorem kd_X3_doneWith : Cond.code yX3_doneWith cX3_doneWith 2 (some .int) ∈ gz_TB := (gz_in 480 (by decide +kernel) rfl)
theorem ki_X3_doneWith : Cond.initialized (yX3_doneWith).cls ∈ gz_TB := (gz_in 86 (by decide +kernel) rfl)
theorem ks_X3_doneWith : Cond.instanceMethod yX3_doneWith ∈ gz_TB := (gz_in 478 (by decide +kernel) rfl)
theorem kv_X3_doneWith : Cond.selects (yX3_doneWith).cls yX3_doneWith yX3_doneWith ∈ gz_TB := (gz_in 479 (by decide +kernel) rfl)
theorem kl_RX8_367 : gz_lk 1 RX8 367 mX3_doneWith 1 := ⟨kd_X3_doneWith, ki_X3_doneWith, Or.inl (gz_in 477 (by decide +kernel) rfl), by decide, ⟨by decide +kernel, by decide +kernel, by decide +kernel⟩, fun z => absurd z (by decide), fun _ => ks_X3_doneWith, fun _ => kv_X3_doneWith, fun z => absurd z (by decide)⟩
theorem kd_X1_toldSomewhere : Cond.code yX1_toldSomewhere cX1_toldSomewhere 4 (some .int) ∈ gz_TB := (gz_in 580 (by decide +kernel) rfl)
theorem ki_X1_toldSomewhere : Cond.initialized (yX1_toldSomewhere).cls ∈ gz_TB := (gz_in 87 (by decide +kernel) rfl)
theorem ks_X1_toldSomewhere : Cond.instanceMethod yX1_toldSomewhere ∈ gz_TB := (gz_in 578 (by decide +kernel) rfl)
theorem kv_X1_toldSomewhere : Cond.selects (yX1_toldSomewhere).cls yX1_toldSomewhere yX1_toldSomewhere ∈ gz_TB := (gz_in 579 (by decide +kernel) rfl)
theorem kl_RX8_376 : gz_lk 1 RX8 376 mX1_toldSomewhere 1 := ⟨kd_X1_toldSomewhere, ki_X1_toldSomewhere, Or.inl (gz_in 652 (by decide +kernel) rfl), by decide, ⟨by decide +kernel, by decide +kernel, by decide +kernel⟩, fun z => absurd z (by decide), fun _ => ks_X1_toldSomewhere, fun _ => kv_X1_toldSomewhere, fun z => absurd z (by decide)⟩
theorem kd_X1_roomOf : Cond.code yX1_roomOf cX1_roomOf 4 (some .int) ∈ gz_TB := (gz_in 744 (by decide +kernel) rfl)
theorem ki_X1_roomOf : Cond.initialized (yX1_roomOf).cls ∈ gz_TB := (gz_in 87 (by decide +kernel) rfl)
theorem ks_X1_roomOf : Cond.instanceMethod yX1_roomOf ∈ gz_TB := (gz_in 742 (by decide +kernel) rfl)
theorem kv_X1_roomOf : Cond.selects (yX1_roomOf).cls yX1_roomOf yX1_roomOf ∈ gz_TB := (gz_in 743 (by decide +kernel) rfl)
theorem kl_RX8_379 : gz_lk 1 RX8 379 mX1_roomOf 1 := ⟨kd_X1_roomOf, ki_X1_roomOf, Or.inl (gz_in 741 (by decide +kernel) rfl), by decide, ⟨by decide +kernel, by decide +kernel, by decide +kernel⟩, fun z => absurd z (by decide), fun _ => ks_X1_roomOf, fun _ => kv_X1_roomOf, fun z => absurd z (by decide)⟩
theorem kd_X2_hasFact : Cond.code yX2_hasFact cX2_hasFact 2 (some .boolean) ∈ gz_TB := (gz_in 428 (by decide +kernel) rfl)
theorem ki_X2_hasFact : Cond.initialized (yX2_hasFact).cls ∈ gz_TB := (gz_in 85 (by decide +kernel) rfl)
theorem ks_X2_hasFact : Cond.instanceMethod yX2_hasFact ∈ gz_TB := (gz_in 426 (by decide +kernel) rfl)
theorem kv_X2_hasFact : Cond.selects (yX2_hasFact).cls yX2_hasFact yX2_hasFact ∈ gz_TB := (gz_in 427 (by decide +kernel) rfl)
theorem kl_RX8_385 : gz_lk 1 RX8 385 mX2_hasFact 1 := ⟨kd_X2_hasFact, ki_X2_hasFact, Or.inl (gz_in 779 (by decide +kernel) rfl), by decide, ⟨by decide +kernel, by decide +kernel, by decide +kernel⟩, fun z => absurd z (by decide), fun _ => ks_X2_hasFact, fun _ => kv_X2_hasFact, fun z => absurd z (by decide)⟩
theorem kd_X2_take : Cond.code yX2_take cX2_take 4 (some .int) ∈ gz_TB := (gz_in 440 (by decide +kernel) rfl)
theorem ki_X2_take : Cond.initialized (yX2_take).cls ∈ gz_TB := (gz_in 85 (by decide +kernel) rfl)
theorem ks_X2_take : Cond.instanceMethod yX2_take ∈ gz_TB := (gz_in 438 (by decide +kernel) rfl)
theorem kv_X2_take : Cond.selects (yX2_take).cls yX2_take yX2_take ∈ gz_TB := (gz_in 439 (by decide +kernel) rfl)
theorem kl_RX8_386 : gz_lk 1 RX8 386 mX2_take 1 := ⟨kd_X2_take, ki_X2_take, Or.inl (gz_in 780 (by decide +kernel) rfl), by decide, ⟨by decide +kernel, by decide +kernel, by decide +kernel⟩, fun z => absurd z (by decide), fun _ => ks_X2_take, fun _ => kv_X2_take, fun z => absurd z (by decide)⟩
theorem kd_X2_loseNewest : Cond.code yX2_loseNewest cX2_loseNewest 2 (some .int) ∈ gz_TB := (gz_in 489 (by decide +kernel) rfl)
theorem ki_X2_loseNewest : Cond.initialized (yX2_loseNewest).cls ∈ gz_TB := (gz_in 85 (by decide +kernel) rfl)
theorem ks_X2_loseNewest : Cond.instanceMethod yX2_loseNewest ∈ gz_TB := (gz_in 487 (by decide +kernel) rfl)
theorem kv_X2_loseNewest : Cond.selects (yX2_loseNewest).cls yX2_loseNewest yX2_loseNewest ∈ gz_TB := (gz_in 488 (by decide +kernel) rfl)
theorem kl_RX8_389 : gz_lk 1 RX8 389 mX2_loseNewest 0 := ⟨kd_X2_loseNewest, ki_X2_loseNewest, Or.inl (gz_in 781 (by decide +kernel) rfl), by decide, ⟨by decide +kernel, by decide +kernel, by decide +kernel⟩, fun z => absurd z (by decide), fun _ => ks_X2_loseNewest, fun _ => kv_X2_loseNewest, fun z => absurd z (by decide)⟩
theorem kd_X2_becomeLike : Cond.code yX2_becomeLike cX2_becomeLike 2 none ∈ gz_TB := (gz_in 466 (by decide +kernel) rfl)
theorem ki_X2_becomeLike : Cond.initialized (yX2_becomeLike).cls ∈ gz_TB := (gz_in 85 (by decide +kernel) rfl)
theorem ks_X2_becomeLike : Cond.instanceMethod yX2_becomeLike ∈ gz_TB := (gz_in 464 (by decide +kernel) rfl)
theorem kv_X2_becomeLike : Cond.selects (yX2_becomeLike).cls yX2_becomeLike yX2_becomeLike ∈ gz_TB := (gz_in 465 (by decide +kernel) rfl)
theorem kl_RX1_35 : gz_lk 1 RX1 35 mX2_becomeLike 1 := ⟨kd_X2_becomeLike, ki_X2_becomeLike, Or.inl (gz_in 463 (by decide +kernel) rfl), by decide, ⟨by decide +kernel, by decide +kernel, by decide +kernel⟩, fun z => absurd z (by decide), fun _ => ks_X2_becomeLike, fun _ => kv_X2_becomeLike, fun z => absurd z (by decide)⟩
theorem kl_RX1_43 : gz_lk 1 RX1 43 mX1_aliveSet 0 := ⟨kd_X1_aliveSet, ki_X1_aliveSet, Or.inl (gz_in 799 (by decide +kernel) rfl), by decide, ⟨by decide +kernel, by decide +kernel, by decide +kernel⟩, fun z => absurd z (by decide), fun _ => ks_X1_aliveSet, fun _ => kv_X1_aliveSet, fun z => absurd z (by decide)⟩
theorem kl_RX1_60 : gz_lk 1 RX1 60 mX2_take 1 := ⟨kd_X2_take, ki_X2_take, Or.inl (gz_in 485 (by decide +kernel) rfl), by decide, ⟨by decide +kernel, by decide +kernel, by decide +kernel⟩, fun z => absurd z (by decide), fun _ => ks_X2_take, fun _ => kv_X2_take, fun z => absurd z (by decide)⟩
theorem kl_RX1_63 : gz_lk 1 RX1 63 mX2_loseNewest 0 := ⟨kd_X2_loseNewest, ki_X2_loseNewest, Or.inl (gz_in 486 (by decide +kernel) rfl), by decide, ⟨by decide +kernel, by decide +kernel, by decide +kernel⟩, fun z => absurd z (by decide), fun _ => ks_X2_loseNewest, fun _ => kv_X2_loseNewest, fun z => absurd z (by decide)⟩
theorem kd_X1_mixAtPond : Cond.code yX1_mixAtPond cX1_mixAtPond 6 (some .int) ∈ gz_TB := (gz_in 497 (by decide +kernel) rfl)
theorem ki_X1_mixAtPond : Cond.initialized (yX1_mixAtPond).cls ∈ gz_TB := (gz_in 87 (by decide +kernel) rfl)
theorem ks_X1_mixAtPond : Cond.instanceMethod yX1_mixAtPond ∈ gz_TB := (gz_in 496 (by decide +kernel) rfl)
theorem kv_X1_mixAtPond : Cond.selects (yX1_mixAtPond).cls yX1_mixAtPond yX1_mixAtPond ∈ gz_TB := (gz_in 10 (by decide +kernel) rfl)
theorem kl_RX1_66 : gz_lk 1 RX1 66 mX1_mixAtPond 2 := ⟨kd_X1_mixAtPond, ki_X1_mixAtPond, Or.inl (gz_in 494 (by decide +kernel) rfl), by decide, ⟨by decide +kernel, by decide +kernel, by decide +kernel⟩, fun z => absurd z (by decide), fun _ => ks_X1_mixAtPond, fun _ => kv_X1_mixAtPond, fun z => absurd z (by decide)⟩
theorem kd_X1_devour : Cond.code yX1_devour cX1_devour 5 (some .int) ∈ gz_TB := (gz_in 502 (by decide +kernel) rfl)
theorem ki_X1_devour : Cond.initialized (yX1_devour).cls ∈ gz_TB := (gz_in 87 (by decide +kernel) rfl)
theorem ks_X1_devour : Cond.instanceMethod yX1_devour ∈ gz_TB := (gz_in 501 (by decide +kernel) rfl)
theorem kv_X1_devour : Cond.selects (yX1_devour).cls yX1_devour yX1_devour ∈ gz_TB := (gz_in 11 (by decide +kernel) rfl)
theorem kl_RX1_70 : gz_lk 1 RX1 70 mX1_devour 2 := ⟨kd_X1_devour, ki_X1_devour, Or.inl (gz_in 499 (by decide +kernel) rfl), by decide, ⟨by decide +kernel, by decide +kernel, by decide +kernel⟩, fun z => absurd z (by decide), fun _ => ks_X1_devour, fun _ => kv_X1_devour, fun z => absurd z (by decide)⟩
theorem kd_X2_newest : Cond.code yX2_newest cX2_newest 1 (some .int) ∈ gz_TB := (gz_in 493 (by decide +kernel) rfl)
theorem ki_X2_newest : Cond.initialized (yX2_newest).cls ∈ gz_TB := (gz_in 85 (by decide +kernel) rfl)
theorem ks_X2_newest : Cond.instanceMethod yX2_newest ∈ gz_TB := (gz_in 491 (by decide +kernel) rfl)
theorem kv_X2_newest : Cond.selects (yX2_newest).cls yX2_newest yX2_newest ∈ gz_TB := (gz_in 492 (by decide +kernel) rfl)
theorem kl_RX1_76 : gz_lk 1 RX1 76 mX2_newest 0 := ⟨kd_X2_newest, ki_X2_newest, Or.inl (gz_in 498 (by decide +kernel) rfl), by decide, ⟨by decide +kernel, by decide +kernel, by decide +kernel⟩, fun z => absurd z (by decide), fun _ => ks_X2_newest, fun _ => kv_X2_newest, fun z => absurd z (by decide)⟩
theorem kd_X2_leave : Cond.code yX2_leave cX2_leave 1 none ∈ gz_TB := (gz_in 506 (by decide +kernel) rfl)
theorem ki_X2_leave : Cond.initialized (yX2_leave).cls ∈ gz_TB := (gz_in 85 (by decide +kernel) rfl)
theorem ks_X2_leave : Cond.instanceMethod yX2_leave ∈ gz_TB := (gz_in 504 (by decide +kernel) rfl)
theorem kv_X2_leave : Cond.selects (yX2_leave).cls yX2_leave yX2_leave ∈ gz_TB := (gz_in 505 (by decide +kernel) rfl)
theorem kl_RX1_84 : gz_lk 1 RX1 84 mX2_leave 0 := ⟨kd_X2_leave, ki_X2_leave, Or.inl (gz_in 503 (by decide +kernel) rfl), by decide, ⟨by decide +kernel, by decide +kernel, by decide +kernel⟩, fun z => absurd z (by decide), fun _ => ks_X2_leave, fun _ => kv_X2_leave, fun z => absurd z (by decide)⟩
theorem kl_RX1_87 : gz_lk 1 RX1 87 mX1_heldByNobody 0 := ⟨kd_X1_heldByNobody, ki_X1_heldByNobody, Or.inl (gz_in 507 (by decide +kernel) rfl), by decide, ⟨by decide +kernel, by decide +kernel, by decide +kernel⟩, fun z => absurd z (by decide), fun _ => ks_X1_heldByNobody, fun _ => kv_X1_heldByNobody, fun z => absurd z (by decide)⟩
theorem kd_X2_set : Cond.code yX2_set cX2_set 3 (some .int) ∈ gz_TB := (gz_in 522 (by decide +kernel) rfl)
theorem ki_X2_set : Cond.initialized (yX2_set).cls ∈ gz_TB := (gz_in 85 (by decide +kernel) rfl)
theorem ks_X2_set : Cond.instanceMethod yX2_set ∈ gz_TB := (gz_in 520 (by decide +kernel) rfl)
theorem kv_X2_set : Cond.selects (yX2_set).cls yX2_set yX2_set ∈ gz_TB := (gz_in 521 (by decide +kernel) rfl)
theorem kl_RX1_90 : gz_lk 1 RX1 90 mX2_set 0 := ⟨kd_X2_set, ki_X2_set, Or.inl (gz_in 519 (by decide +kernel) rfl), by decide, ⟨by decide +kernel, by decide +kernel, by decide +kernel⟩, fun z => absurd z (by decide), fun _ => ks_X2_set, fun _ => kv_X2_set, fun z => absurd z (by decide)⟩
theorem kl_RX1_93 : gz_lk 1 RX1 93 mX1_heldBySet 1 := ⟨kd_X1_heldBySet, ki_X1_heldBySet, Or.inl (gz_in 515 (by decide +kernel) rfl), by decide, ⟨by decide +kernel, by decide +kernel, by decide +kernel⟩, fun z => absurd z (by decide), fun _ => ks_X1_heldBySet, fun _ => kv_X1_heldBySet, fun z => absurd z (by decide)⟩
theorem kl_RX1_96 : gz_lk 1 RX1 96 mX1_heldBySome 0 := ⟨kd_X1_heldBySome, ki_X1_heldBySome, Or.inl (gz_in 511 (by decide +kernel) rfl), by decide, ⟨by decide +kernel, by decide +kernel, by decide +kernel⟩, fun z => absurd z (by decide), fun _ => ks_X1_heldBySome, fun _ => kv_X1_heldBySome, fun z => absurd z (by decide)⟩
theorem kl_RX1_99 : gz_lk 1 RX1 99 mX2_hasFact 1 := ⟨kd_X2_hasFact, ki_X2_hasFact, Or.inl (gz_in 667 (by decide +kernel) rfl), by decide, ⟨by decide +kernel, by decide +kernel, by decide +kernel⟩, fun z => absurd z (by decide), fun _ => ks_X2_hasFact, fun _ => kv_X2_hasFact, fun z => absurd z (by decide)⟩
theorem kd_X2_toldAs : Cond.code yX2_toldAs cX2_toldAs 7 (some .int) ∈ gz_TB := (gz_in 564 (by decide +kernel) rfl)
theorem ki_X2_toldAs : Cond.initialized (yX2_toldAs).cls ∈ gz_TB := (gz_in 85 (by decide +kernel) rfl)
theorem ks_X2_toldAs : Cond.instanceMethod yX2_toldAs ∈ gz_TB := (gz_in 562 (by decide +kernel) rfl)
theorem kv_X2_toldAs : Cond.selects (yX2_toldAs).cls yX2_toldAs yX2_toldAs ∈ gz_TB := (gz_in 563 (by decide +kernel) rfl)
theorem kl_RX1_103 : gz_lk 1 RX1 103 mX2_toldAs 3 := ⟨kd_X2_toldAs, ki_X2_toldAs, Or.inl (gz_in 561 (by decide +kernel) rfl), by decide, ⟨by decide +kernel, by decide +kernel, by decide +kernel⟩, fun z => absurd z (by decide), fun _ => ks_X2_toldAs, fun _ => kv_X2_toldAs, fun z => absurd z (by decide)⟩
theorem kl_RX1_107 : gz_lk 1 RX1 107 mX1_toldAt 2 := ⟨kd_X1_toldAt, ki_X1_toldAt, Or.inl (gz_in 557 (by decide +kernel) rfl), by decide, ⟨by decide +kernel, by decide +kernel, by decide +kernel⟩, fun z => absurd z (by decide), fun _ => ks_X1_toldAt, fun _ => kv_X1_toldAt, fun z => absurd z (by decide)⟩
theorem kd_X1_placesWithTelling : Cond.code yX1_placesWithTelling cX1_placesWithTelling 4 (some .int) ∈ gz_TB := (gz_in 556 (by decide +kernel) rfl)
theorem ki_X1_placesWithTelling : Cond.initialized (yX1_placesWithTelling).cls ∈ gz_TB := (gz_in 87 (by decide +kernel) rfl)
theorem ks_X1_placesWithTelling : Cond.instanceMethod yX1_placesWithTelling ∈ gz_TB := (gz_in 555 (by decide +kernel) rfl)
theorem kv_X1_placesWithTelling : Cond.selects (yX1_placesWithTelling).cls yX1_placesWithTelling yX1_placesWithTelling ∈ gz_TB := (gz_in 12 (by decide +kernel) rfl)
theorem kl_RX1_110 : gz_lk 1 RX1 110 mX1_placesWithTelling 1 := ⟨kd_X1_placesWithTelling, ki_X1_placesWithTelling, Or.inl (gz_in 553 (by decide +kernel) rfl), by decide, ⟨by decide +kernel, by decide +kernel, by decide +kernel⟩, fun z => absurd z (by decide), fun _ => ks_X1_placesWithTelling, fun _ => kv_X1_placesWithTelling, fun z => absurd z (by decide)⟩
theorem kd_X1_toldTwice : Cond.code yX1_toldTwice cX1_toldTwice 6 (some .int) ∈ gz_TB := (gz_in 572 (by decide +kernel) rfl)
theorem ki_X1_toldTwice : Cond.initialized (yX1_toldTwice).cls ∈ gz_TB := (gz_in 87 (by decide +kernel) rfl)
theorem ks_X1_toldTwice : Cond.instanceMethod yX1_toldTwice ∈ gz_TB := (gz_in 571 (by decide +kernel) rfl)
theorem kv_X1_toldTwice : Cond.selects (yX1_toldTwice).cls yX1_toldTwice yX1_toldTwice ∈ gz_TB := (gz_in 13 (by decide +kernel) rfl)
theorem kl_RX1_113 : gz_lk 1 RX1 113 mX1_toldTwice 1 := ⟨kd_X1_toldTwice, ki_X1_toldTwice, Or.inl (gz_in 569 (by decide +kernel) rfl), by decide, ⟨by decide +kernel, by decide +kernel, by decide +kernel⟩, fun z => absurd z (by decide), fun _ => ks_X1_toldTwice, fun _ => kv_X1_toldTwice, fun z => absurd z (by decide)⟩
theorem kd_X2_room : Cond.code yX2_room cX2_room 1 (some .int) ∈ gz_TB := (gz_in 576 (by decide +kernel) rfl)
theorem ki_X2_room : Cond.initialized (yX2_room).cls ∈ gz_TB := (gz_in 85 (by decide +kernel) rfl)
theorem ks_X2_room : Cond.instanceMethod yX2_room ∈ gz_TB := (gz_in 574 (by decide +kernel) rfl)
theorem kv_X2_room : Cond.selects (yX2_room).cls yX2_room yX2_room ∈ gz_TB := (gz_in 575 (by decide +kernel) rfl)
theorem kl_RX1_116 : gz_lk 1 RX1 116 mX2_room 0 := ⟨kd_X2_room, ki_X2_room, Or.inl (gz_in 573 (by decide +kernel) rfl), by decide, ⟨by decide +kernel, by decide +kernel, by decide +kernel⟩, fun z => absurd z (by decide), fun _ => ks_X2_room, fun _ => kv_X2_room, fun z => absurd z (by decide)⟩
theorem kl_RX1_119 : gz_lk 1 RX1 119 mX1_toldSomewhere 1 := ⟨kd_X1_toldSomewhere, ki_X1_toldSomewhere, Or.inl (gz_in 577 (by decide +kernel) rfl), by decide, ⟨by decide +kernel, by decide +kernel, by decide +kernel⟩, fun z => absurd z (by decide), fun _ => ks_X1_toldSomewhere, fun _ => kv_X1_toldSomewhere, fun z => absurd z (by decide)⟩
theorem kl_RX1_122 : gz_lk 1 RX1 122 mX1_heldOnlyBy 1 := ⟨kd_X1_heldOnlyBy, ki_X1_heldOnlyBy, Or.inl (gz_in 581 (by decide +kernel) rfl), by decide, ⟨by decide +kernel, by decide +kernel, by decide +kernel⟩, fun z => absurd z (by decide), fun _ => ks_X1_heldOnlyBy, fun _ => kv_X1_heldOnlyBy, fun z => absurd z (by decide)⟩
theorem kd_X2_digestFrom : Cond.code yX2_digestFrom cX2_digestFrom 6 (some .long) ∈ gz_TB := (gz_in 877 (by decide +kernel) rfl)
theorem ki_X2_digestFrom : Cond.initialized (yX2_digestFrom).cls ∈ gz_TB := (gz_in 85 (by decide +kernel) rfl)
theorem ks_X2_digestFrom : Cond.instanceMethod yX2_digestFrom ∈ gz_TB := (gz_in 875 (by decide +kernel) rfl)
theorem kv_X2_digestFrom : Cond.selects (yX2_digestFrom).cls yX2_digestFrom yX2_digestFrom ∈ gz_TB := (gz_in 876 (by decide +kernel) rfl)
theorem kl_RX1_127 : gz_lk 1 RX1 127 mX2_digestFrom 1 := ⟨kd_X2_digestFrom, ki_X2_digestFrom, Or.inl (gz_in 874 (by decide +kernel) rfl), by decide, ⟨by decide +kernel, by decide +kernel, by decide +kernel⟩, fun z => absurd z (by decide), fun _ => ks_X2_digestFrom, fun _ => kv_X2_digestFrom, fun z => absurd z (by decide)⟩
theorem kl_RX2_32 : gz_lk 1 RX2 32 mX2_become 3 := ⟨kd_X2_become, ki_X2_become, Or.inl (gz_in 467 (by decide +kernel) rfl), by decide, ⟨by decide +kernel, by decide +kernel, by decide +kernel⟩, fun z => absurd z (by decide), fun _ => ks_X2_become, fun _ => kv_X2_become, fun z => absurd z (by decide)⟩
theorem kd_X2_placeInOrder : Cond.code yX2_placeInOrder cX2_placeInOrder 3 (some .int) ∈ gz_TB := (gz_in 432 (by decide +kernel) rfl)
theorem ki_X2_placeInOrder : Cond.initialized (yX2_placeInOrder).cls ∈ gz_TB := (gz_in 85 (by decide +kernel) rfl)
theorem ks_X2_placeInOrder : Cond.instanceMethod yX2_placeInOrder ∈ gz_TB := (gz_in 431 (by decide +kernel) rfl)
theorem kv_X2_placeInOrder : Cond.selects (yX2_placeInOrder).cls yX2_placeInOrder yX2_placeInOrder ∈ gz_TB := (gz_in 7 (by decide +kernel) rfl)
theorem kl_RX2_42 : gz_lk 1 RX2 42 mX2_placeInOrder 1 := ⟨kd_X2_placeInOrder, ki_X2_placeInOrder, Or.inl (gz_in 429 (by decide +kernel) rfl), by decide, ⟨by decide +kernel, by decide +kernel, by decide +kernel⟩, fun z => absurd z (by decide), fun _ => ks_X2_placeInOrder, fun _ => kv_X2_placeInOrder, fun z => absurd z (by decide)⟩
theorem kl_RX2_46 : gz_lk 1 RX2 46 mX2_set 0 := ⟨kd_X2_set, ki_X2_set, Or.inl (gz_in 541 (by decide +kernel) rfl), by decide, ⟨by decide +kernel, by decide +kernel, by decide +kernel⟩, fun z => absurd z (by decide), fun _ => ks_X2_set, fun _ => kv_X2_set, fun z => absurd z (by decide)⟩
theorem kl_RX2_50 : gz_lk 1 RX2 50 mX2_newest 0 := ⟨kd_X2_newest, ki_X2_newest, Or.inl (gz_in 490 (by decide +kernel) rfl), by decide, ⟨by decide +kernel, by decide +kernel, by decide +kernel⟩, fun z => absurd z (by decide), fun _ => ks_X2_newest, fun _ => kv_X2_newest, fun z => absurd z (by decide)⟩
theorem kd_X2_oldest : Cond.code yX2_oldest cX2_oldest 1 (some .int) ∈ gz_TB := (gz_in 449 (by decide +kernel) rfl)
theorem ki_X2_oldest : Cond.initialized (yX2_oldest).cls ∈ gz_TB := (gz_in 85 (by decide +kernel) rfl)
theorem ks_X2_oldest : Cond.instanceMethod yX2_oldest ∈ gz_TB := (gz_in 447 (by decide +kernel) rfl)
theorem kv_X2_oldest : Cond.selects (yX2_oldest).cls yX2_oldest yX2_oldest ∈ gz_TB := (gz_in 448 (by decide +kernel) rfl)
theorem kl_RX2_53 : gz_lk 1 RX2 53 mX2_oldest 0 := ⟨kd_X2_oldest, ki_X2_oldest, Or.inl (gz_in 446 (by decide +kernel) rfl), by decide, ⟨by decide +kernel, by decide +kernel, by decide +kernel⟩, fun z => absurd z (by decide), fun _ => ks_X2_oldest, fun _ => kv_X2_oldest, fun z => absurd z (by decide)⟩
theorem kd_X2_removeAt : Cond.code yX2_removeAt cX2_removeAt 3 none ∈ gz_TB := (gz_in 444 (by decide +kernel) rfl)
theorem ki_X2_removeAt : Cond.initialized (yX2_removeAt).cls ∈ gz_TB := (gz_in 85 (by decide +kernel) rfl)
theorem ks_X2_removeAt : Cond.instanceMethod yX2_removeAt ∈ gz_TB := (gz_in 443 (by decide +kernel) rfl)
theorem kv_X2_removeAt : Cond.selects (yX2_removeAt).cls yX2_removeAt yX2_removeAt ∈ gz_TB := (gz_in 8 (by decide +kernel) rfl)
theorem kl_RX2_56 : gz_lk 1 RX2 56 mX2_removeAt 1 := ⟨kd_X2_removeAt, ki_X2_removeAt, Or.inl (gz_in 441 (by decide +kernel) rfl), by decide, ⟨by decide +kernel, by decide +kernel, by decide +kernel⟩, fun z => absurd z (by decide), fun _ => ks_X2_removeAt, fun _ => kv_X2_removeAt, fun z => absurd z (by decide)⟩
theorem kd_X2_isFilled : Cond.code yX2_isFilled cX2_isFilled 1 (some .boolean) ∈ gz_TB := (gz_in 436 (by decide +kernel) rfl)
theorem ki_X2_isFilled : Cond.initialized (yX2_isFilled).cls ∈ gz_TB := (gz_in 85 (by decide +kernel) rfl)
theorem ks_X2_isFilled : Cond.instanceMethod yX2_isFilled ∈ gz_TB := (gz_in 434 (by decide +kernel) rfl)
theorem kv_X2_isFilled : Cond.selects (yX2_isFilled).cls yX2_isFilled yX2_isFilled ∈ gz_TB := (gz_in 435 (by decide +kernel) rfl)
theorem kl_RX2_60 : gz_lk 1 RX2 60 mX2_isFilled 0 := ⟨kd_X2_isFilled, ki_X2_isFilled, Or.inl (gz_in 445 (by decide +kernel) rfl), by decide, ⟨by decide +kernel, by decide +kernel, by decide +kernel⟩, fun z => absurd z (by decide), fun _ => ks_X2_isFilled, fun _ => kv_X2_isFilled, fun z => absurd z (by decide)⟩
theorem kl_RX2_74 : gz_lk 1 RX2 74 mX2_answer 1 := ⟨kd_X2_answer, ki_X2_answer, Or.inl (gz_in 879 (by decide +kernel) rfl), by decide, ⟨by decide +kernel, by decide +kernel, by decide +kernel⟩, fun z => absurd z (by decide), fun _ => ks_X2_answer, fun _ => kv_X2_answer, fun z => absurd z (by decide)⟩
theorem kd_X5_skipBlanks : Cond.code yX5_skipBlanks cX5_skipBlanks 1 none ∈ gz_TB := (gz_in 398 (by decide +kernel) rfl)
theorem ki_X5_skipBlanks : Cond.initialized (yX5_skipBlanks).cls ∈ gz_TB := (gz_in 81 (by decide +kernel) rfl)
theorem ks_X5_skipBlanks : Cond.instanceMethod yX5_skipBlanks ∈ gz_TB := (gz_in 397 (by decide +kernel) rfl)
theorem kv_X5_skipBlanks : Cond.selects (yX5_skipBlanks).cls yX5_skipBlanks yX5_skipBlanks ∈ gz_TB := (gz_in 2 (by decide +kernel) rfl)
theorem kl_RX5_32 : gz_lk 1 RX5 32 mX5_skipBlanks 0 := ⟨kd_X5_skipBlanks, ki_X5_skipBlanks, Or.inl (gz_in 395 (by decide +kernel) rfl), by decide, ⟨by decide +kernel, by decide +kernel, by decide +kernel⟩, fun z => absurd z (by decide), fun _ => ks_X5_skipBlanks, fun _ => kv_X5_skipBlanks, fun z => absurd z (by decide)⟩
theorem kd_X5_readVillage : Cond.code yX5_readVillage cX5_readVillage 1 (some .boolean) ∈ gz_TB := (gz_in 402 (by decide +kernel) rfl)
theorem ki_X5_readVillage : Cond.initialized (yX5_readVillage).cls ∈ gz_TB := (gz_in 81 (by decide +kernel) rfl)
theorem ks_X5_readVillage : Cond.instanceMethod yX5_readVillage ∈ gz_TB := (gz_in 401 (by decide +kernel) rfl)
theorem kv_X5_readVillage : Cond.selects (yX5_readVillage).cls yX5_readVillage yX5_readVillage ∈ gz_TB := (gz_in 3 (by decide +kernel) rfl)
theorem kl_RX5_35 : gz_lk 1 RX5 35 mX5_readVillage 0 := ⟨kd_X5_readVillage, ki_X5_readVillage, Or.inl (gz_in 399 (by decide +kernel) rfl), by decide, ⟨by decide +kernel, by decide +kernel, by decide +kernel⟩, fun z => absurd z (by decide), fun _ => ks_X5_readVillage, fun _ => kv_X5_readVillage, fun z => absurd z (by decide)⟩
theorem kd_X5_readGoose : Cond.code yX5_readGoose cX5_readGoose 6 (some .boolean) ∈ gz_TB := (gz_in 410 (by decide +kernel) rfl)
theorem ki_X5_readGoose : Cond.initialized (yX5_readGoose).cls ∈ gz_TB := (gz_in 81 (by decide +kernel) rfl)
theorem ks_X5_readGoose : Cond.instanceMethod yX5_readGoose ∈ gz_TB := (gz_in 409 (by decide +kernel) rfl)
theorem kv_X5_readGoose : Cond.selects (yX5_readGoose).cls yX5_readGoose yX5_readGoose ∈ gz_TB := (gz_in 5 (by decide +kernel) rfl)
theorem kl_RX5_39 : gz_lk 1 RX5 39 mX5_readGoose 0 := ⟨kd_X5_readGoose, ki_X5_readGoose, Or.inl (gz_in 407 (by decide +kernel) rfl), by decide, ⟨by decide +kernel, by decide +kernel, by decide +kernel⟩, fun z => absurd z (by decide), fun _ => ks_X5_readGoose, fun _ => kv_X5_readGoose, fun z => absurd z (by decide)⟩
theorem kd_X5_figure : Cond.code yX5_figure cX5_figure 1 (some .int) ∈ gz_TB := (gz_in 406 (by decide +kernel) rfl)
theorem ki_X5_figure : Cond.initialized (yX5_figure).cls ∈ gz_TB := (gz_in 81 (by decide +kernel) rfl)
theorem ks_X5_figure : Cond.instanceMethod yX5_figure ∈ gz_TB := (gz_in 405 (by decide +kernel) rfl)
theorem kv_X5_figure : Cond.selects (yX5_figure).cls yX5_figure yX5_figure ∈ gz_TB := (gz_in 4 (by decide +kernel) rfl)
theorem kl_RX5_42 : gz_lk 1 RX5 42 mX5_figure 0 := ⟨kd_X5_figure, ki_X5_figure, Or.inl (gz_in 403 (by decide +kernel) rfl), by decide, ⟨by decide +kernel, by decide +kernel, by decide +kernel⟩, fun z => absurd z (by decide), fun _ => ks_X5_figure, fun _ => kv_X5_figure, fun z => absurd z (by decide)⟩
theorem kd_X5_letter : Cond.code yX5_letter cX5_letter 2 (some .int) ∈ gz_TB := (gz_in 414 (by decide +kernel) rfl)
theorem ki_X5_letter : Cond.initialized (yX5_letter).cls ∈ gz_TB := (gz_in 81 (by decide +kernel) rfl)
theorem ks_X5_letter : Cond.instanceMethod yX5_letter ∈ gz_TB := (gz_in 413 (by decide +kernel) rfl)
theorem kv_X5_letter : Cond.selects (yX5_letter).cls yX5_letter yX5_letter ∈ gz_TB := (gz_in 6 (by decide +kernel) rfl)
theorem kl_RX5_49 : gz_lk 1 RX5 49 mX5_letter 0 := ⟨kd_X5_letter, ki_X5_letter, Or.inl (gz_in 411 (by decide +kernel) rfl), by decide, ⟨by decide +kernel, by decide +kernel, by decide +kernel⟩, fun z => absurd z (by decide), fun _ => ks_X5_letter, fun _ => kv_X5_letter, fun z => absurd z (by decide)⟩
theorem kl_RX5_56 : gz_lk 1 RX5 56 mX2_become 3 := ⟨kd_X2_become, ki_X2_become, Or.inl (gz_in 417 (by decide +kernel) rfl), by decide, ⟨by decide +kernel, by decide +kernel, by decide +kernel⟩, fun z => absurd z (by decide), fun _ => ks_X2_become, fun _ => kv_X2_become, fun z => absurd z (by decide)⟩
theorem kl_RX5_62 : gz_lk 1 RX5 62 mX1_hasFact 1 := ⟨kd_X1_hasFact, ki_X1_hasFact, Or.inl (gz_in 421 (by decide +kernel) rfl), by decide, ⟨by decide +kernel, by decide +kernel, by decide +kernel⟩, fun z => absurd z (by decide), fun _ => ks_X1_hasFact, fun _ => kv_X1_hasFact, fun z => absurd z (by decide)⟩
theorem kl_RX5_66 : gz_lk 1 RX5 66 mX2_hasFact 1 := ⟨kd_X2_hasFact, ki_X2_hasFact, Or.inl (gz_in 425 (by decide +kernel) rfl), by decide, ⟨by decide +kernel, by decide +kernel, by decide +kernel⟩, fun z => absurd z (by decide), fun _ => ks_X2_hasFact, fun _ => kv_X2_hasFact, fun z => absurd z (by decide)⟩
theorem kl_RX5_67 : gz_lk 1 RX5 67 mX2_isFilled 0 := ⟨kd_X2_isFilled, ki_X2_isFilled, Or.inl (gz_in 433 (by decide +kernel) rfl), by decide, ⟨by decide +kernel, by decide +kernel, by decide +kernel⟩, fun z => absurd z (by decide), fun _ => ks_X2_isFilled, fun _ => kv_X2_isFilled, fun z => absurd z (by decide)⟩
theorem kl_RX5_70 : gz_lk 1 RX5 70 mX2_take 1 := ⟨kd_X2_take, ki_X2_take, Or.inl (gz_in 437 (by decide +kernel) rfl), by decide, ⟨by decide +kernel, by decide +kernel, by decide +kernel⟩, fun z => absurd z (by decide), fun _ => ks_X2_take, fun _ => kv_X2_take, fun z => absurd z (by decide)⟩
theorem kl_RX6_25 : gz_lk 1 RX6 25 mX2_toldAs 3 := ⟨kd_X2_toldAs, ki_X2_toldAs, Or.inl (gz_in 778 (by decide +kernel) rfl), by decide, ⟨by decide +kernel, by decide +kernel, by decide +kernel⟩, fun z => absurd z (by decide), fun _ => ks_X2_toldAs, fun _ => kv_X2_toldAs, fun z => absurd z (by decide)⟩
theorem kl_RX7_30 : gz_lk 1 RX7 30 mX7_has 1 := ⟨kd_X7_has, ki_X7_has, Or.inl (gz_in 850 (by decide +kernel) rfl), by decide, ⟨by decide +kernel, by decide +kernel, by decide +kernel⟩, fun z => absurd z (by decide), fun _ => ks_X7_has, fun _ => kv_X7_has, fun z => absurd z (by decide)⟩
theorem kd_X8_row : Cond.code yX8_row cX8_row 3 (some .int) ∈ gz_TB := (gz_in 327 (by decide +kernel) rfl)
theorem ki_X8_row : Cond.initialized (yX8_row).cls ∈ gz_TB := (gz_in 78 (by decide +kernel) rfl)
theorem ks_X8_row : Cond.instanceMethod yX8_row ∈ gz_TB := (gz_in 325 (by decide +kernel) rfl)
theorem kv_X8_row : Cond.selects (yX8_row).cls yX8_row yX8_row ∈ gz_TB := (gz_in 326 (by decide +kernel) rfl)
theorem kl_RL_13 : gz_lk 1 RL 13 mX8_row 2 := ⟨kd_X8_row, ki_X8_row, Or.inl (gz_in 324 (by decide +kernel) rfl), by decide, ⟨by decide +kernel, by decide +kernel, by decide +kernel⟩, fun z => absurd z (by decide), fun _ => ks_X8_row, fun _ => kv_X8_row, fun z => absurd z (by decide)⟩
theorem kd_X9_row : Cond.code yX9_row cX9_row 3 (some .int) ∈ gz_TB := (gz_in 982 (by decide +kernel) rfl)
theorem ki_X9_row : Cond.initialized (yX9_row).cls ∈ gz_TB := (gz_in 88 (by decide +kernel) rfl)
theorem ks_X9_row : Cond.instanceMethod yX9_row ∈ gz_TB := (gz_in 980 (by decide +kernel) rfl)
theorem kv_X9_row : Cond.selects (yX9_row).cls yX9_row yX9_row ∈ gz_TB := (gz_in 981 (by decide +kernel) rfl)
theorem kl_RL_17 : gz_lk 1 RL 17 mX9_row 2 := ⟨kd_X9_row, ki_X9_row, Or.inl (gz_in 979 (by decide +kernel) rfl), by decide, ⟨by decide +kernel, by decide +kernel, by decide +kernel⟩, fun z => absurd z (by decide), fun _ => ks_X9_row, fun _ => kv_X9_row, fun z => absurd z (by decide)⟩
theorem kd_X8_lay : Cond.code yX8_lay cX8_lay 5 (some .int) ∈ gz_TB := (gz_in 347 (by decide +kernel) rfl)
theorem ki_X8_lay : Cond.initialized (yX8_lay).cls ∈ gz_TB := (gz_in 78 (by decide +kernel) rfl)
theorem ks_X8_lay : Cond.instanceMethod yX8_lay ∈ gz_TB := (gz_in 345 (by decide +kernel) rfl)
theorem kv_X8_lay : Cond.selects (yX8_lay).cls yX8_lay yX8_lay ∈ gz_TB := (gz_in 346 (by decide +kernel) rfl)
theorem kl_RL_18 : gz_lk 1 RL 18 mX8_lay 3 := ⟨kd_X8_lay, ki_X8_lay, Or.inl (gz_in 344 (by decide +kernel) rfl), by decide, ⟨by decide +kernel, by decide +kernel, by decide +kernel⟩, fun z => absurd z (by decide), fun _ => ks_X8_lay, fun _ => kv_X8_lay, fun z => absurd z (by decide)⟩
theorem kd_X9_lay : Cond.code yX9_lay cX9_lay 6 (some .int) ∈ gz_TB := (gz_in 1001 (by decide +kernel) rfl)
theorem ki_X9_lay : Cond.initialized (yX9_lay).cls ∈ gz_TB := (gz_in 88 (by decide +kernel) rfl)
theorem ks_X9_lay : Cond.instanceMethod yX9_lay ∈ gz_TB := (gz_in 999 (by decide +kernel) rfl)
theorem kv_X9_lay : Cond.selects (yX9_lay).cls yX9_lay yX9_lay ∈ gz_TB := (gz_in 1000 (by decide +kernel) rfl)
theorem kl_RL_22 : gz_lk 1 RL 22 mX9_lay 3 := ⟨kd_X9_lay, ki_X9_lay, Or.inl (gz_in 998 (by decide +kernel) rfl), by decide, ⟨by decide +kernel, by decide +kernel, by decide +kernel⟩, fun z => absurd z (by decide), fun _ => ks_X9_lay, fun _ => kv_X9_lay, fun z => absurd z (by decide)⟩
theorem kd_X8_at : Cond.code yX8_at cX8_at 4 (some .int) ∈ gz_TB := (gz_in 359 (by decide +kernel) rfl)
theorem ki_X8_at : Cond.initialized (yX8_at).cls ∈ gz_TB := (gz_in 78 (by decide +kernel) rfl)
theorem ks_X8_at : Cond.instanceMethod yX8_at ∈ gz_TB := (gz_in 357 (by decide +kernel) rfl)
theorem kv_X8_at : Cond.selects (yX8_at).cls yX8_at yX8_at ∈ gz_TB := (gz_in 358 (by decide +kernel) rfl)
theorem kl_RL_23 : gz_lk 1 RL 23 mX8_at 2 := ⟨kd_X8_at, ki_X8_at, Or.inl (gz_in 356 (by decide +kernel) rfl), by decide, ⟨by decide +kernel, by decide +kernel, by decide +kernel⟩, fun z => absurd z (by decide), fun _ => ks_X8_at, fun _ => kv_X8_at, fun z => absurd z (by decide)⟩
theorem kd_X9_at : Cond.code yX9_at cX9_at 4 (some .int) ∈ gz_TB := (gz_in 1013 (by decide +kernel) rfl)
theorem ki_X9_at : Cond.initialized (yX9_at).cls ∈ gz_TB := (gz_in 88 (by decide +kernel) rfl)
theorem ks_X9_at : Cond.instanceMethod yX9_at ∈ gz_TB := (gz_in 1011 (by decide +kernel) rfl)
theorem kv_X9_at : Cond.selects (yX9_at).cls yX9_at yX9_at ∈ gz_TB := (gz_in 1012 (by decide +kernel) rfl)
theorem kl_RL_26 : gz_lk 1 RL 26 mX9_at 2 := ⟨kd_X9_at, ki_X9_at, Or.inl (gz_in 1010 (by decide +kernel) rfl), by decide, ⟨by decide +kernel, by decide +kernel, by decide +kernel⟩, fun z => absurd z (by decide), fun _ => ks_X9_at, fun _ => kv_X9_at, fun z => absurd z (by decide)⟩
theorem kd_X8_tear : Cond.code yX8_tear cX8_tear 2 (some .int) ∈ gz_TB := (gz_in 363 (by decide +kernel) rfl)
theorem ki_X8_tear : Cond.initialized (yX8_tear).cls ∈ gz_TB := (gz_in 78 (by decide +kernel) rfl)
theorem ks_X8_tear : Cond.instanceMethod yX8_tear ∈ gz_TB := (gz_in 361 (by decide +kernel) rfl)
theorem kv_X8_tear : Cond.selects (yX8_tear).cls yX8_tear yX8_tear ∈ gz_TB := (gz_in 362 (by decide +kernel) rfl)
theorem kl_RL_27 : gz_lk 1 RL 27 mX8_tear 1 := ⟨kd_X8_tear, ki_X8_tear, Or.inl (gz_in 360 (by decide +kernel) rfl), by decide, ⟨by decide +kernel, by decide +kernel, by decide +kernel⟩, fun z => absurd z (by decide), fun _ => ks_X8_tear, fun _ => kv_X8_tear, fun z => absurd z (by decide)⟩
theorem kd_X9_tear : Cond.code yX9_tear cX9_tear 2 (some .int) ∈ gz_TB := (gz_in 1017 (by decide +kernel) rfl)
theorem ki_X9_tear : Cond.initialized (yX9_tear).cls ∈ gz_TB := (gz_in 88 (by decide +kernel) rfl)
theorem ks_X9_tear : Cond.instanceMethod yX9_tear ∈ gz_TB := (gz_in 1015 (by decide +kernel) rfl)
theorem kv_X9_tear : Cond.selects (yX9_tear).cls yX9_tear yX9_tear ∈ gz_TB := (gz_in 1016 (by decide +kernel) rfl)
theorem kl_RL_31 : gz_lk 1 RL 31 mX9_tear 1 := ⟨kd_X9_tear, ki_X9_tear, Or.inl (gz_in 1014 (by decide +kernel) rfl), by decide, ⟨by decide +kernel, by decide +kernel, by decide +kernel⟩, fun z => absurd z (by decide), fun _ => ks_X9_tear, fun _ => kv_X9_tear, fun z => absurd z (by decide)⟩
theorem kd_X8_copy : Cond.code yX8_copy cX8_copy 6 (some .int) ∈ gz_TB := (gz_in 367 (by decide +kernel) rfl)
theorem ki_X8_copy : Cond.initialized (yX8_copy).cls ∈ gz_TB := (gz_in 78 (by decide +kernel) rfl)
theorem ks_X8_copy : Cond.instanceMethod yX8_copy ∈ gz_TB := (gz_in 365 (by decide +kernel) rfl)
theorem kv_X8_copy : Cond.selects (yX8_copy).cls yX8_copy yX8_copy ∈ gz_TB := (gz_in 366 (by decide +kernel) rfl)
theorem kl_RL_32 : gz_lk 1 RL 32 mX8_copy 5 := ⟨kd_X8_copy, ki_X8_copy, Or.inl (gz_in 364 (by decide +kernel) rfl), by decide, ⟨by decide +kernel, by decide +kernel, by decide +kernel⟩, fun z => absurd z (by decide), fun _ => ks_X8_copy, fun _ => kv_X8_copy, fun z => absurd z (by decide)⟩
theorem kd_X9_copy : Cond.code yX9_copy cX9_copy 9 (some .int) ∈ gz_TB := (gz_in 1021 (by decide +kernel) rfl)
theorem ki_X9_copy : Cond.initialized (yX9_copy).cls ∈ gz_TB := (gz_in 88 (by decide +kernel) rfl)
theorem ks_X9_copy : Cond.instanceMethod yX9_copy ∈ gz_TB := (gz_in 1019 (by decide +kernel) rfl)
theorem kv_X9_copy : Cond.selects (yX9_copy).cls yX9_copy yX9_copy ∈ gz_TB := (gz_in 1020 (by decide +kernel) rfl)
theorem kl_RL_36 : gz_lk 1 RL 36 mX9_copy 5 := ⟨kd_X9_copy, ki_X9_copy, Or.inl (gz_in 1018 (by decide +kernel) rfl), by decide, ⟨by decide +kernel, by decide +kernel, by decide +kernel⟩, fun z => absurd z (by decide), fun _ => ks_X9_copy, fun _ => kv_X9_copy, fun z => absurd z (by decide)⟩
theorem kd_X8_mean : Cond.code yX8_mean cX8_mean 6 (some .int) ∈ gz_TB := (gz_in 378 (by decide +kernel) rfl)
theorem ki_X8_mean : Cond.initialized (yX8_mean).cls ∈ gz_TB := (gz_in 78 (by decide +kernel) rfl)
theorem ks_X8_mean : Cond.instanceMethod yX8_mean ∈ gz_TB := (gz_in 376 (by decide +kernel) rfl)
theorem kv_X8_mean : Cond.selects (yX8_mean).cls yX8_mean yX8_mean ∈ gz_TB := (gz_in 377 (by decide +kernel) rfl)
theorem kl_RL_37 : gz_lk 1 RL 37 mX8_mean 1 := ⟨kd_X8_mean, ki_X8_mean, Or.inl (gz_in 375 (by decide +kernel) rfl), by decide, ⟨by decide +kernel, by decide +kernel, by decide +kernel⟩, fun z => absurd z (by decide), fun _ => ks_X8_mean, fun _ => kv_X8_mean, fun z => absurd z (by decide)⟩
theorem kd_X9_mean : Cond.code yX9_mean cX9_mean 5 (some .int) ∈ gz_TB := (gz_in 1029 (by decide +kernel) rfl)
theorem ki_X9_mean : Cond.initialized (yX9_mean).cls ∈ gz_TB := (gz_in 88 (by decide +kernel) rfl)
theorem ks_X9_mean : Cond.instanceMethod yX9_mean ∈ gz_TB := (gz_in 1027 (by decide +kernel) rfl)
theorem kv_X9_mean : Cond.selects (yX9_mean).cls yX9_mean yX9_mean ∈ gz_TB := (gz_in 1028 (by decide +kernel) rfl)
theorem kl_RL_40 : gz_lk 1 RL 40 mX9_mean 1 := ⟨kd_X9_mean, ki_X9_mean, Or.inl (gz_in 1026 (by decide +kernel) rfl), by decide, ⟨by decide +kernel, by decide +kernel, by decide +kernel⟩, fun z => absurd z (by decide), fun _ => ks_X9_mean, fun _ => kv_X9_mean, fun z => absurd z (by decide)⟩
theorem kd_X8_text : Cond.code yX8_text cX8_text 3 (some .int) ∈ gz_TB := (gz_in 382 (by decide +kernel) rfl)
theorem ki_X8_text : Cond.initialized (yX8_text).cls ∈ gz_TB := (gz_in 78 (by decide +kernel) rfl)
theorem ks_X8_text : Cond.instanceMethod yX8_text ∈ gz_TB := (gz_in 380 (by decide +kernel) rfl)
theorem kv_X8_text : Cond.selects (yX8_text).cls yX8_text yX8_text ∈ gz_TB := (gz_in 381 (by decide +kernel) rfl)
theorem kl_RL_41 : gz_lk 1 RL 41 mX8_text 2 := ⟨kd_X8_text, ki_X8_text, Or.inl (gz_in 379 (by decide +kernel) rfl), by decide, ⟨by decide +kernel, by decide +kernel, by decide +kernel⟩, fun z => absurd z (by decide), fun _ => ks_X8_text, fun _ => kv_X8_text, fun z => absurd z (by decide)⟩
theorem kd_X9_text : Cond.code yX9_text cX9_text 4 (some .int) ∈ gz_TB := (gz_in 1033 (by decide +kernel) rfl)
theorem ki_X9_text : Cond.initialized (yX9_text).cls ∈ gz_TB := (gz_in 88 (by decide +kernel) rfl)
theorem ks_X9_text : Cond.instanceMethod yX9_text ∈ gz_TB := (gz_in 1031 (by decide +kernel) rfl)
theorem kv_X9_text : Cond.selects (yX9_text).cls yX9_text yX9_text ∈ gz_TB := (gz_in 1032 (by decide +kernel) rfl)
theorem kl_RL_44 : gz_lk 1 RL 44 mX9_text 2 := ⟨kd_X9_text, ki_X9_text, Or.inl (gz_in 1030 (by decide +kernel) rfl), by decide, ⟨by decide +kernel, by decide +kernel, by decide +kernel⟩, fun z => absurd z (by decide), fun _ => ks_X9_text, fun _ => kv_X9_text, fun z => absurd z (by decide)⟩
theorem kd_X8_put : Cond.code yX8_put cX8_put 6 (some .int) ∈ gz_TB := (gz_in 386 (by decide +kernel) rfl)
theorem ki_X8_put : Cond.initialized (yX8_put).cls ∈ gz_TB := (gz_in 78 (by decide +kernel) rfl)
theorem ks_X8_put : Cond.instanceMethod yX8_put ∈ gz_TB := (gz_in 384 (by decide +kernel) rfl)
theorem kv_X8_put : Cond.selects (yX8_put).cls yX8_put yX8_put ∈ gz_TB := (gz_in 385 (by decide +kernel) rfl)
theorem kl_RL_45 : gz_lk 1 RL 45 mX8_put 3 := ⟨kd_X8_put, ki_X8_put, Or.inl (gz_in 383 (by decide +kernel) rfl), by decide, ⟨by decide +kernel, by decide +kernel, by decide +kernel⟩, fun z => absurd z (by decide), fun _ => ks_X8_put, fun _ => kv_X8_put, fun z => absurd z (by decide)⟩
theorem kd_X9_put : Cond.code yX9_put cX9_put 5 (some .int) ∈ gz_TB := (gz_in 1041 (by decide +kernel) rfl)
theorem ki_X9_put : Cond.initialized (yX9_put).cls ∈ gz_TB := (gz_in 88 (by decide +kernel) rfl)
theorem ks_X9_put : Cond.instanceMethod yX9_put ∈ gz_TB := (gz_in 1039 (by decide +kernel) rfl)
theorem kv_X9_put : Cond.selects (yX9_put).cls yX9_put yX9_put ∈ gz_TB := (gz_in 1040 (by decide +kernel) rfl)
theorem kl_RL_48 : gz_lk 1 RL 48 mX9_put 3 := ⟨kd_X9_put, ki_X9_put, Or.inl (gz_in 1038 (by decide +kernel) rfl), by decide, ⟨by decide +kernel, by decide +kernel, by decide +kernel⟩, fun z => absurd z (by decide), fun _ => ks_X9_put, fun _ => kv_X9_put, fun z => absurd z (by decide)⟩
theorem kd_X8_fault : Cond.code yX8_fault cX8_fault 2 (some .int) ∈ gz_TB := (gz_in 390 (by decide +kernel) rfl)
theorem ki_X8_fault : Cond.initialized (yX8_fault).cls ∈ gz_TB := (gz_in 78 (by decide +kernel) rfl)
theorem ks_X8_fault : Cond.instanceMethod yX8_fault ∈ gz_TB := (gz_in 388 (by decide +kernel) rfl)
theorem kv_X8_fault : Cond.selects (yX8_fault).cls yX8_fault yX8_fault ∈ gz_TB := (gz_in 389 (by decide +kernel) rfl)
theorem kl_RL_49 : gz_lk 1 RL 49 mX8_fault 1 := ⟨kd_X8_fault, ki_X8_fault, Or.inl (gz_in 387 (by decide +kernel) rfl), by decide, ⟨by decide +kernel, by decide +kernel, by decide +kernel⟩, fun z => absurd z (by decide), fun _ => ks_X8_fault, fun _ => kv_X8_fault, fun z => absurd z (by decide)⟩
theorem kd_X9_fault : Cond.code yX9_fault cX9_fault 2 (some .int) ∈ gz_TB := (gz_in 1045 (by decide +kernel) rfl)
theorem ki_X9_fault : Cond.initialized (yX9_fault).cls ∈ gz_TB := (gz_in 88 (by decide +kernel) rfl)
theorem ks_X9_fault : Cond.instanceMethod yX9_fault ∈ gz_TB := (gz_in 1043 (by decide +kernel) rfl)
theorem kv_X9_fault : Cond.selects (yX9_fault).cls yX9_fault yX9_fault ∈ gz_TB := (gz_in 1044 (by decide +kernel) rfl)
theorem kl_RL_52 : gz_lk 1 RL 52 mX9_fault 1 := ⟨kd_X9_fault, ki_X9_fault, Or.inl (gz_in 1042 (by decide +kernel) rfl), by decide, ⟨by decide +kernel, by decide +kernel, by decide +kernel⟩, fun z => absurd z (by decide), fun _ => ks_X9_fault, fun _ => kv_X9_fault, fun z => absurd z (by decide)⟩
theorem kd_X8_flock : Cond.code yX8_flock cX8_flock 4 (some .int) ∈ gz_TB := (gz_in 453 (by decide +kernel) rfl)
theorem ki_X8_flock : Cond.initialized (yX8_flock).cls ∈ gz_TB := (gz_in 78 (by decide +kernel) rfl)
theorem ks_X8_flock : Cond.instanceMethod yX8_flock ∈ gz_TB := (gz_in 451 (by decide +kernel) rfl)
theorem kv_X8_flock : Cond.selects (yX8_flock).cls yX8_flock yX8_flock ∈ gz_TB := (gz_in 452 (by decide +kernel) rfl)
theorem kl_RL_53 : gz_lk 1 RL 53 mX8_flock 1 := ⟨kd_X8_flock, ki_X8_flock, Or.inl (gz_in 450 (by decide +kernel) rfl), by decide, ⟨by decide +kernel, by decide +kernel, by decide +kernel⟩, fun z => absurd z (by decide), fun _ => ks_X8_flock, fun _ => kv_X8_flock, fun z => absurd z (by decide)⟩
theorem kd_X9_flock : Cond.code yX9_flock cX9_flock 4 (some .int) ∈ gz_TB := (gz_in 1085 (by decide +kernel) rfl)
theorem ki_X9_flock : Cond.initialized (yX9_flock).cls ∈ gz_TB := (gz_in 88 (by decide +kernel) rfl)
theorem ks_X9_flock : Cond.instanceMethod yX9_flock ∈ gz_TB := (gz_in 1083 (by decide +kernel) rfl)
theorem kv_X9_flock : Cond.selects (yX9_flock).cls yX9_flock yX9_flock ∈ gz_TB := (gz_in 1084 (by decide +kernel) rfl)
theorem kl_RL_56 : gz_lk 1 RL 56 mX9_flock 1 := ⟨kd_X9_flock, ki_X9_flock, Or.inl (gz_in 1082 (by decide +kernel) rfl), by decide, ⟨by decide +kernel, by decide +kernel, by decide +kernel⟩, fun z => absurd z (by decide), fun _ => ks_X9_flock, fun _ => kv_X9_flock, fun z => absurd z (by decide)⟩
theorem kd_X8_goose : Cond.code yX8_goose cX8_goose 3 (some .int) ∈ gz_TB := (gz_in 532 (by decide +kernel) rfl)
theorem ki_X8_goose : Cond.initialized (yX8_goose).cls ∈ gz_TB := (gz_in 78 (by decide +kernel) rfl)
theorem ks_X8_goose : Cond.instanceMethod yX8_goose ∈ gz_TB := (gz_in 530 (by decide +kernel) rfl)
theorem kv_X8_goose : Cond.selects (yX8_goose).cls yX8_goose yX8_goose ∈ gz_TB := (gz_in 531 (by decide +kernel) rfl)
theorem kl_RL_57 : gz_lk 1 RL 57 mX8_goose 2 := ⟨kd_X8_goose, ki_X8_goose, Or.inl (gz_in 529 (by decide +kernel) rfl), by decide, ⟨by decide +kernel, by decide +kernel, by decide +kernel⟩, fun z => absurd z (by decide), fun _ => ks_X8_goose, fun _ => kv_X8_goose, fun z => absurd z (by decide)⟩
theorem kd_X9_goose : Cond.code yX9_goose cX9_goose 3 (some .int) ∈ gz_TB := (gz_in 1089 (by decide +kernel) rfl)
theorem ki_X9_goose : Cond.initialized (yX9_goose).cls ∈ gz_TB := (gz_in 88 (by decide +kernel) rfl)
theorem ks_X9_goose : Cond.instanceMethod yX9_goose ∈ gz_TB := (gz_in 1087 (by decide +kernel) rfl)
theorem kv_X9_goose : Cond.selects (yX9_goose).cls yX9_goose yX9_goose ∈ gz_TB := (gz_in 1088 (by decide +kernel) rfl)
theorem kl_RL_60 : gz_lk 1 RL 60 mX9_goose 2 := ⟨kd_X9_goose, ki_X9_goose, Or.inl (gz_in 1086 (by decide +kernel) rfl), by decide, ⟨by decide +kernel, by decide +kernel, by decide +kernel⟩, fun z => absurd z (by decide), fun _ => ks_X9_goose, fun _ => kv_X9_goose, fun z => absurd z (by decide)⟩
theorem kd_X8_mark : Cond.code yX8_mark cX8_mark 3 (some .int) ∈ gz_TB := (gz_in 545 (by decide +kernel) rfl)
theorem ki_X8_mark : Cond.initialized (yX8_mark).cls ∈ gz_TB := (gz_in 78 (by decide +kernel) rfl)
theorem ks_X8_mark : Cond.instanceMethod yX8_mark ∈ gz_TB := (gz_in 543 (by decide +kernel) rfl)
theorem kv_X8_mark : Cond.selects (yX8_mark).cls yX8_mark yX8_mark ∈ gz_TB := (gz_in 544 (by decide +kernel) rfl)
theorem kl_RL_61 : gz_lk 1 RL 61 mX8_mark 2 := ⟨kd_X8_mark, ki_X8_mark, Or.inl (gz_in 542 (by decide +kernel) rfl), by decide, ⟨by decide +kernel, by decide +kernel, by decide +kernel⟩, fun z => absurd z (by decide), fun _ => ks_X8_mark, fun _ => kv_X8_mark, fun z => absurd z (by decide)⟩
theorem kd_X9_mark : Cond.code yX9_mark cX9_mark 3 (some .int) ∈ gz_TB := (gz_in 1114 (by decide +kernel) rfl)
theorem ki_X9_mark : Cond.initialized (yX9_mark).cls ∈ gz_TB := (gz_in 88 (by decide +kernel) rfl)
theorem ks_X9_mark : Cond.instanceMethod yX9_mark ∈ gz_TB := (gz_in 1112 (by decide +kernel) rfl)
theorem kv_X9_mark : Cond.selects (yX9_mark).cls yX9_mark yX9_mark ∈ gz_TB := (gz_in 1113 (by decide +kernel) rfl)
theorem kl_RL_64 : gz_lk 1 RL 64 mX9_mark 2 := ⟨kd_X9_mark, ki_X9_mark, Or.inl (gz_in 1111 (by decide +kernel) rfl), by decide, ⟨by decide +kernel, by decide +kernel, by decide +kernel⟩, fun z => absurd z (by decide), fun _ => ks_X9_mark, fun _ => kv_X9_mark, fun z => absurd z (by decide)⟩
theorem kd_X8_place : Cond.code yX8_place cX8_place 2 (some .int) ∈ gz_TB := (gz_in 588 (by decide +kernel) rfl)
theorem ki_X8_place : Cond.initialized (yX8_place).cls ∈ gz_TB := (gz_in 78 (by decide +kernel) rfl)
theorem ks_X8_place : Cond.instanceMethod yX8_place ∈ gz_TB := (gz_in 586 (by decide +kernel) rfl)
theorem kv_X8_place : Cond.selects (yX8_place).cls yX8_place yX8_place ∈ gz_TB := (gz_in 587 (by decide +kernel) rfl)
theorem kl_RL_65 : gz_lk 1 RL 65 mX8_place 1 := ⟨kd_X8_place, ki_X8_place, Or.inl (gz_in 585 (by decide +kernel) rfl), by decide, ⟨by decide +kernel, by decide +kernel, by decide +kernel⟩, fun z => absurd z (by decide), fun _ => ks_X8_place, fun _ => kv_X8_place, fun z => absurd z (by decide)⟩
theorem kd_X9_place : Cond.code yX9_place cX9_place 2 (some .int) ∈ gz_TB := (gz_in 1159 (by decide +kernel) rfl)
theorem ki_X9_place : Cond.initialized (yX9_place).cls ∈ gz_TB := (gz_in 88 (by decide +kernel) rfl)
theorem ks_X9_place : Cond.instanceMethod yX9_place ∈ gz_TB := (gz_in 1157 (by decide +kernel) rfl)
theorem kv_X9_place : Cond.selects (yX9_place).cls yX9_place yX9_place ∈ gz_TB := (gz_in 1158 (by decide +kernel) rfl)
theorem kl_RL_68 : gz_lk 1 RL 68 mX9_place 1 := ⟨kd_X9_place, ki_X9_place, Or.inl (gz_in 1156 (by decide +kernel) rfl), by decide, ⟨by decide +kernel, by decide +kernel, by decide +kernel⟩, fun z => absurd z (by decide), fun _ => ks_X9_place, fun _ => kv_X9_place, fun z => absurd z (by decide)⟩
theorem kd_X8_give : Cond.code yX8_give cX8_give 3 (some .int) ∈ gz_TB := (gz_in 593 (by decide +kernel) rfl)
theorem ki_X8_give : Cond.initialized (yX8_give).cls ∈ gz_TB := (gz_in 78 (by decide +kernel) rfl)
theorem ks_X8_give : Cond.instanceMethod yX8_give ∈ gz_TB := (gz_in 591 (by decide +kernel) rfl)
theorem kv_X8_give : Cond.selects (yX8_give).cls yX8_give yX8_give ∈ gz_TB := (gz_in 592 (by decide +kernel) rfl)
theorem kl_RL_69 : gz_lk 1 RL 69 mX8_give 2 := ⟨kd_X8_give, ki_X8_give, Or.inl (gz_in 590 (by decide +kernel) rfl), by decide, ⟨by decide +kernel, by decide +kernel, by decide +kernel⟩, fun z => absurd z (by decide), fun _ => ks_X8_give, fun _ => kv_X8_give, fun z => absurd z (by decide)⟩
theorem kd_X9_give : Cond.code yX9_give cX9_give 4 (some .int) ∈ gz_TB := (gz_in 1167 (by decide +kernel) rfl)
theorem ki_X9_give : Cond.initialized (yX9_give).cls ∈ gz_TB := (gz_in 88 (by decide +kernel) rfl)
theorem ks_X9_give : Cond.instanceMethod yX9_give ∈ gz_TB := (gz_in 1165 (by decide +kernel) rfl)
theorem kv_X9_give : Cond.selects (yX9_give).cls yX9_give yX9_give ∈ gz_TB := (gz_in 1166 (by decide +kernel) rfl)
theorem kl_RL_72 : gz_lk 1 RL 72 mX9_give 2 := ⟨kd_X9_give, ki_X9_give, Or.inl (gz_in 1164 (by decide +kernel) rfl), by decide, ⟨by decide +kernel, by decide +kernel, by decide +kernel⟩, fun z => absurd z (by decide), fun _ => ks_X9_give, fun _ => kv_X9_give, fun z => absurd z (by decide)⟩
theorem kd_X8_fright : Cond.code yX8_fright cX8_fright 2 (some .int) ∈ gz_TB := (gz_in 605 (by decide +kernel) rfl)
theorem ki_X8_fright : Cond.initialized (yX8_fright).cls ∈ gz_TB := (gz_in 78 (by decide +kernel) rfl)
theorem ks_X8_fright : Cond.instanceMethod yX8_fright ∈ gz_TB := (gz_in 603 (by decide +kernel) rfl)
theorem kv_X8_fright : Cond.selects (yX8_fright).cls yX8_fright yX8_fright ∈ gz_TB := (gz_in 604 (by decide +kernel) rfl)
theorem kl_RL_73 : gz_lk 1 RL 73 mX8_fright 1 := ⟨kd_X8_fright, ki_X8_fright, Or.inl (gz_in 602 (by decide +kernel) rfl), by decide, ⟨by decide +kernel, by decide +kernel, by decide +kernel⟩, fun z => absurd z (by decide), fun _ => ks_X8_fright, fun _ => kv_X8_fright, fun z => absurd z (by decide)⟩
theorem kd_X9_fright : Cond.code yX9_fright cX9_fright 3 (some .int) ∈ gz_TB := (gz_in 1187 (by decide +kernel) rfl)
theorem ki_X9_fright : Cond.initialized (yX9_fright).cls ∈ gz_TB := (gz_in 88 (by decide +kernel) rfl)
theorem ks_X9_fright : Cond.instanceMethod yX9_fright ∈ gz_TB := (gz_in 1185 (by decide +kernel) rfl)
theorem kv_X9_fright : Cond.selects (yX9_fright).cls yX9_fright yX9_fright ∈ gz_TB := (gz_in 1186 (by decide +kernel) rfl)
theorem kl_RL_76 : gz_lk 1 RL 76 mX9_fright 1 := ⟨kd_X9_fright, ki_X9_fright, Or.inl (gz_in 1184 (by decide +kernel) rfl), by decide, ⟨by decide +kernel, by decide +kernel, by decide +kernel⟩, fun z => absurd z (by decide), fun _ => ks_X9_fright, fun _ => kv_X9_fright, fun z => absurd z (by decide)⟩
theorem kd_X8_mix : Cond.code yX8_mix cX8_mix 3 (some .int) ∈ gz_TB := (gz_in 609 (by decide +kernel) rfl)
theorem ki_X8_mix : Cond.initialized (yX8_mix).cls ∈ gz_TB := (gz_in 78 (by decide +kernel) rfl)
theorem ks_X8_mix : Cond.instanceMethod yX8_mix ∈ gz_TB := (gz_in 607 (by decide +kernel) rfl)
theorem kv_X8_mix : Cond.selects (yX8_mix).cls yX8_mix yX8_mix ∈ gz_TB := (gz_in 608 (by decide +kernel) rfl)
theorem kl_RL_77 : gz_lk 1 RL 77 mX8_mix 2 := ⟨kd_X8_mix, ki_X8_mix, Or.inl (gz_in 606 (by decide +kernel) rfl), by decide, ⟨by decide +kernel, by decide +kernel, by decide +kernel⟩, fun z => absurd z (by decide), fun _ => ks_X8_mix, fun _ => kv_X8_mix, fun z => absurd z (by decide)⟩
theorem kd_X9_mix : Cond.code yX9_mix cX9_mix 6 (some .int) ∈ gz_TB := (gz_in 1195 (by decide +kernel) rfl)
theorem ki_X9_mix : Cond.initialized (yX9_mix).cls ∈ gz_TB := (gz_in 88 (by decide +kernel) rfl)
theorem ks_X9_mix : Cond.instanceMethod yX9_mix ∈ gz_TB := (gz_in 1193 (by decide +kernel) rfl)
theorem kv_X9_mix : Cond.selects (yX9_mix).cls yX9_mix yX9_mix ∈ gz_TB := (gz_in 1194 (by decide +kernel) rfl)
theorem kl_RL_80 : gz_lk 1 RL 80 mX9_mix 2 := ⟨kd_X9_mix, ki_X9_mix, Or.inl (gz_in 1192 (by decide +kernel) rfl), by decide, ⟨by decide +kernel, by decide +kernel, by decide +kernel⟩, fun z => absurd z (by decide), fun _ => ks_X9_mix, fun _ => kv_X9_mix, fun z => absurd z (by decide)⟩
theorem kd_X8_eat : Cond.code yX8_eat cX8_eat 3 (some .int) ∈ gz_TB := (gz_in 613 (by decide +kernel) rfl)
theorem ki_X8_eat : Cond.initialized (yX8_eat).cls ∈ gz_TB := (gz_in 78 (by decide +kernel) rfl)
theorem ks_X8_eat : Cond.instanceMethod yX8_eat ∈ gz_TB := (gz_in 611 (by decide +kernel) rfl)
theorem kv_X8_eat : Cond.selects (yX8_eat).cls yX8_eat yX8_eat ∈ gz_TB := (gz_in 612 (by decide +kernel) rfl)
theorem kl_RL_81 : gz_lk 1 RL 81 mX8_eat 2 := ⟨kd_X8_eat, ki_X8_eat, Or.inl (gz_in 610 (by decide +kernel) rfl), by decide, ⟨by decide +kernel, by decide +kernel, by decide +kernel⟩, fun z => absurd z (by decide), fun _ => ks_X8_eat, fun _ => kv_X8_eat, fun z => absurd z (by decide)⟩
theorem kd_X9_eat : Cond.code yX9_eat cX9_eat 5 (some .int) ∈ gz_TB := (gz_in 1199 (by decide +kernel) rfl)
theorem ki_X9_eat : Cond.initialized (yX9_eat).cls ∈ gz_TB := (gz_in 88 (by decide +kernel) rfl)
theorem ks_X9_eat : Cond.instanceMethod yX9_eat ∈ gz_TB := (gz_in 1197 (by decide +kernel) rfl)
theorem kv_X9_eat : Cond.selects (yX9_eat).cls yX9_eat yX9_eat ∈ gz_TB := (gz_in 1198 (by decide +kernel) rfl)
theorem kl_RL_84 : gz_lk 1 RL 84 mX9_eat 2 := ⟨kd_X9_eat, ki_X9_eat, Or.inl (gz_in 1196 (by decide +kernel) rfl), by decide, ⟨by decide +kernel, by decide +kernel, by decide +kernel⟩, fun z => absurd z (by decide), fun _ => ks_X9_eat, fun _ => kv_X9_eat, fun z => absurd z (by decide)⟩
theorem kd_X8_undo : Cond.code yX8_undo cX8_undo 3 (some .int) ∈ gz_TB := (gz_in 617 (by decide +kernel) rfl)
theorem ki_X8_undo : Cond.initialized (yX8_undo).cls ∈ gz_TB := (gz_in 78 (by decide +kernel) rfl)
theorem ks_X8_undo : Cond.instanceMethod yX8_undo ∈ gz_TB := (gz_in 615 (by decide +kernel) rfl)
theorem kv_X8_undo : Cond.selects (yX8_undo).cls yX8_undo yX8_undo ∈ gz_TB := (gz_in 616 (by decide +kernel) rfl)
theorem kl_RL_85 : gz_lk 1 RL 85 mX8_undo 1 := ⟨kd_X8_undo, ki_X8_undo, Or.inl (gz_in 614 (by decide +kernel) rfl), by decide, ⟨by decide +kernel, by decide +kernel, by decide +kernel⟩, fun z => absurd z (by decide), fun _ => ks_X8_undo, fun _ => kv_X8_undo, fun z => absurd z (by decide)⟩
theorem kd_X9_undo : Cond.code yX9_undo cX9_undo 4 (some .int) ∈ gz_TB := (gz_in 1211 (by decide +kernel) rfl)
theorem ki_X9_undo : Cond.initialized (yX9_undo).cls ∈ gz_TB := (gz_in 88 (by decide +kernel) rfl)
theorem ks_X9_undo : Cond.instanceMethod yX9_undo ∈ gz_TB := (gz_in 1209 (by decide +kernel) rfl)
theorem kv_X9_undo : Cond.selects (yX9_undo).cls yX9_undo yX9_undo ∈ gz_TB := (gz_in 1210 (by decide +kernel) rfl)
theorem kl_RL_88 : gz_lk 1 RL 88 mX9_undo 1 := ⟨kd_X9_undo, ki_X9_undo, Or.inl (gz_in 1208 (by decide +kernel) rfl), by decide, ⟨by decide +kernel, by decide +kernel, by decide +kernel⟩, fun z => absurd z (by decide), fun _ => ks_X9_undo, fun _ => kv_X9_undo, fun z => absurd z (by decide)⟩
theorem kd_X8_keep : Cond.code yX8_keep cX8_keep 2 (some .int) ∈ gz_TB := (gz_in 621 (by decide +kernel) rfl)
theorem ki_X8_keep : Cond.initialized (yX8_keep).cls ∈ gz_TB := (gz_in 78 (by decide +kernel) rfl)
theorem ks_X8_keep : Cond.instanceMethod yX8_keep ∈ gz_TB := (gz_in 619 (by decide +kernel) rfl)
theorem kv_X8_keep : Cond.selects (yX8_keep).cls yX8_keep yX8_keep ∈ gz_TB := (gz_in 620 (by decide +kernel) rfl)
theorem kl_RL_89 : gz_lk 1 RL 89 mX8_keep 1 := ⟨kd_X8_keep, ki_X8_keep, Or.inl (gz_in 618 (by decide +kernel) rfl), by decide, ⟨by decide +kernel, by decide +kernel, by decide +kernel⟩, fun z => absurd z (by decide), fun _ => ks_X8_keep, fun _ => kv_X8_keep, fun z => absurd z (by decide)⟩
theorem kd_X9_keep : Cond.code yX9_keep cX9_keep 2 (some .int) ∈ gz_TB := (gz_in 1215 (by decide +kernel) rfl)
theorem ki_X9_keep : Cond.initialized (yX9_keep).cls ∈ gz_TB := (gz_in 88 (by decide +kernel) rfl)
theorem ks_X9_keep : Cond.instanceMethod yX9_keep ∈ gz_TB := (gz_in 1213 (by decide +kernel) rfl)
theorem kv_X9_keep : Cond.selects (yX9_keep).cls yX9_keep yX9_keep ∈ gz_TB := (gz_in 1214 (by decide +kernel) rfl)
theorem kl_RL_92 : gz_lk 1 RL 92 mX9_keep 1 := ⟨kd_X9_keep, ki_X9_keep, Or.inl (gz_in 1212 (by decide +kernel) rfl), by decide, ⟨by decide +kernel, by decide +kernel, by decide +kernel⟩, fun z => absurd z (by decide), fun _ => ks_X9_keep, fun _ => kv_X9_keep, fun z => absurd z (by decide)⟩
theorem kd_X8_on : Cond.code yX8_on cX8_on 2 (some .int) ∈ gz_TB := (gz_in 634 (by decide +kernel) rfl)
theorem ki_X8_on : Cond.initialized (yX8_on).cls ∈ gz_TB := (gz_in 78 (by decide +kernel) rfl)
theorem ks_X8_on : Cond.instanceMethod yX8_on ∈ gz_TB := (gz_in 632 (by decide +kernel) rfl)
theorem kv_X8_on : Cond.selects (yX8_on).cls yX8_on yX8_on ∈ gz_TB := (gz_in 633 (by decide +kernel) rfl)
theorem kl_RL_93 : gz_lk 1 RL 93 mX8_on 1 := ⟨kd_X8_on, ki_X8_on, Or.inl (gz_in 631 (by decide +kernel) rfl), by decide, ⟨by decide +kernel, by decide +kernel, by decide +kernel⟩, fun z => absurd z (by decide), fun _ => ks_X8_on, fun _ => kv_X8_on, fun z => absurd z (by decide)⟩
theorem kd_X9_on : Cond.code yX9_on cX9_on 2 (some .int) ∈ gz_TB := (gz_in 1224 (by decide +kernel) rfl)
theorem ki_X9_on : Cond.initialized (yX9_on).cls ∈ gz_TB := (gz_in 88 (by decide +kernel) rfl)
theorem ks_X9_on : Cond.instanceMethod yX9_on ∈ gz_TB := (gz_in 1222 (by decide +kernel) rfl)
theorem kv_X9_on : Cond.selects (yX9_on).cls yX9_on yX9_on ∈ gz_TB := (gz_in 1223 (by decide +kernel) rfl)
theorem kl_RL_96 : gz_lk 1 RL 96 mX9_on 1 := ⟨kd_X9_on, ki_X9_on, Or.inl (gz_in 1221 (by decide +kernel) rfl), by decide, ⟨by decide +kernel, by decide +kernel, by decide +kernel⟩, fun z => absurd z (by decide), fun _ => ks_X9_on, fun _ => kv_X9_on, fun z => absurd z (by decide)⟩
theorem kd_X8_tells : Cond.code yX8_tells cX8_tells 3 (some .int) ∈ gz_TB := (gz_in 638 (by decide +kernel) rfl)
theorem ki_X8_tells : Cond.initialized (yX8_tells).cls ∈ gz_TB := (gz_in 78 (by decide +kernel) rfl)
theorem ks_X8_tells : Cond.instanceMethod yX8_tells ∈ gz_TB := (gz_in 636 (by decide +kernel) rfl)
theorem kv_X8_tells : Cond.selects (yX8_tells).cls yX8_tells yX8_tells ∈ gz_TB := (gz_in 637 (by decide +kernel) rfl)
theorem kl_RL_97 : gz_lk 1 RL 97 mX8_tells 2 := ⟨kd_X8_tells, ki_X8_tells, Or.inl (gz_in 635 (by decide +kernel) rfl), by decide, ⟨by decide +kernel, by decide +kernel, by decide +kernel⟩, fun z => absurd z (by decide), fun _ => ks_X8_tells, fun _ => kv_X8_tells, fun z => absurd z (by decide)⟩
theorem kd_X9_tells : Cond.code yX9_tells cX9_tells 3 (some .int) ∈ gz_TB := (gz_in 1228 (by decide +kernel) rfl)
theorem ki_X9_tells : Cond.initialized (yX9_tells).cls ∈ gz_TB := (gz_in 88 (by decide +kernel) rfl)
theorem ks_X9_tells : Cond.instanceMethod yX9_tells ∈ gz_TB := (gz_in 1226 (by decide +kernel) rfl)
theorem kv_X9_tells : Cond.selects (yX9_tells).cls yX9_tells yX9_tells ∈ gz_TB := (gz_in 1227 (by decide +kernel) rfl)
theorem kl_RL_100 : gz_lk 1 RL 100 mX9_tells 2 := ⟨kd_X9_tells, ki_X9_tells, Or.inl (gz_in 1225 (by decide +kernel) rfl), by decide, ⟨by decide +kernel, by decide +kernel, by decide +kernel⟩, fun z => absurd z (by decide), fun _ => ks_X9_tells, fun _ => kv_X9_tells, fun z => absurd z (by decide)⟩
theorem kd_X8_told : Cond.code yX8_told cX8_told 2 (some .int) ∈ gz_TB := (gz_in 643 (by decide +kernel) rfl)
theorem ki_X8_told : Cond.initialized (yX8_told).cls ∈ gz_TB := (gz_in 78 (by decide +kernel) rfl)
theorem ks_X8_told : Cond.instanceMethod yX8_told ∈ gz_TB := (gz_in 641 (by decide +kernel) rfl)
theorem kv_X8_told : Cond.selects (yX8_told).cls yX8_told yX8_told ∈ gz_TB := (gz_in 642 (by decide +kernel) rfl)
theorem kl_RL_101 : gz_lk 1 RL 101 mX8_told 1 := ⟨kd_X8_told, ki_X8_told, Or.inl (gz_in 640 (by decide +kernel) rfl), by decide, ⟨by decide +kernel, by decide +kernel, by decide +kernel⟩, fun z => absurd z (by decide), fun _ => ks_X8_told, fun _ => kv_X8_told, fun z => absurd z (by decide)⟩
theorem kd_X9_told : Cond.code yX9_told cX9_told 2 (some .int) ∈ gz_TB := (gz_in 1235 (by decide +kernel) rfl)
theorem ki_X9_told : Cond.initialized (yX9_told).cls ∈ gz_TB := (gz_in 88 (by decide +kernel) rfl)
theorem ks_X9_told : Cond.instanceMethod yX9_told ∈ gz_TB := (gz_in 1233 (by decide +kernel) rfl)
theorem kv_X9_told : Cond.selects (yX9_told).cls yX9_told yX9_told ∈ gz_TB := (gz_in 1234 (by decide +kernel) rfl)
theorem kl_RL_104 : gz_lk 1 RL 104 mX9_told 1 := ⟨kd_X9_told, ki_X9_told, Or.inl (gz_in 1232 (by decide +kernel) rfl), by decide, ⟨by decide +kernel, by decide +kernel, by decide +kernel⟩, fun z => absurd z (by decide), fun _ => ks_X9_told, fun _ => kv_X9_told, fun z => absurd z (by decide)⟩
theorem kd_X8_holders : Cond.code yX8_holders cX8_holders 2 (some .int) ∈ gz_TB := (gz_in 659 (by decide +kernel) rfl)
theorem ki_X8_holders : Cond.initialized (yX8_holders).cls ∈ gz_TB := (gz_in 78 (by decide +kernel) rfl)
theorem ks_X8_holders : Cond.instanceMethod yX8_holders ∈ gz_TB := (gz_in 657 (by decide +kernel) rfl)
theorem kv_X8_holders : Cond.selects (yX8_holders).cls yX8_holders yX8_holders ∈ gz_TB := (gz_in 658 (by decide +kernel) rfl)
theorem kl_RL_105 : gz_lk 1 RL 105 mX8_holders 1 := ⟨kd_X8_holders, ki_X8_holders, Or.inl (gz_in 656 (by decide +kernel) rfl), by decide, ⟨by decide +kernel, by decide +kernel, by decide +kernel⟩, fun z => absurd z (by decide), fun _ => ks_X8_holders, fun _ => kv_X8_holders, fun z => absurd z (by decide)⟩
theorem kd_X9_holders : Cond.code yX9_holders cX9_holders 4 (some .int) ∈ gz_TB := (gz_in 1243 (by decide +kernel) rfl)
theorem ki_X9_holders : Cond.initialized (yX9_holders).cls ∈ gz_TB := (gz_in 88 (by decide +kernel) rfl)
theorem ks_X9_holders : Cond.instanceMethod yX9_holders ∈ gz_TB := (gz_in 1241 (by decide +kernel) rfl)
theorem kv_X9_holders : Cond.selects (yX9_holders).cls yX9_holders yX9_holders ∈ gz_TB := (gz_in 1242 (by decide +kernel) rfl)
theorem kl_RL_108 : gz_lk 1 RL 108 mX9_holders 1 := ⟨kd_X9_holders, ki_X9_holders, Or.inl (gz_in 1240 (by decide +kernel) rfl), by decide, ⟨by decide +kernel, by decide +kernel, by decide +kernel⟩, fun z => absurd z (by decide), fun _ => ks_X9_holders, fun _ => kv_X9_holders, fun z => absurd z (by decide)⟩
theorem kd_X8_lost : Cond.code yX8_lost cX8_lost 1 (some .int) ∈ gz_TB := (gz_in 671 (by decide +kernel) rfl)
theorem ki_X8_lost : Cond.initialized (yX8_lost).cls ∈ gz_TB := (gz_in 78 (by decide +kernel) rfl)
theorem ks_X8_lost : Cond.instanceMethod yX8_lost ∈ gz_TB := (gz_in 669 (by decide +kernel) rfl)
theorem kv_X8_lost : Cond.selects (yX8_lost).cls yX8_lost yX8_lost ∈ gz_TB := (gz_in 670 (by decide +kernel) rfl)
theorem kl_RL_109 : gz_lk 1 RL 109 mX8_lost 0 := ⟨kd_X8_lost, ki_X8_lost, Or.inl (gz_in 668 (by decide +kernel) rfl), by decide, ⟨by decide +kernel, by decide +kernel, by decide +kernel⟩, fun z => absurd z (by decide), fun _ => ks_X8_lost, fun _ => kv_X8_lost, fun z => absurd z (by decide)⟩
theorem kd_X9_lost : Cond.code yX9_lost cX9_lost 1 (some .int) ∈ gz_TB := (gz_in 1247 (by decide +kernel) rfl)
theorem ki_X9_lost : Cond.initialized (yX9_lost).cls ∈ gz_TB := (gz_in 88 (by decide +kernel) rfl)
theorem ks_X9_lost : Cond.instanceMethod yX9_lost ∈ gz_TB := (gz_in 1245 (by decide +kernel) rfl)
theorem kv_X9_lost : Cond.selects (yX9_lost).cls yX9_lost yX9_lost ∈ gz_TB := (gz_in 1246 (by decide +kernel) rfl)
theorem kl_RL_113 : gz_lk 1 RL 113 mX9_lost 0 := ⟨kd_X9_lost, ki_X9_lost, Or.inl (gz_in 1244 (by decide +kernel) rfl), by decide, ⟨by decide +kernel, by decide +kernel, by decide +kernel⟩, fun z => absurd z (by decide), fun _ => ks_X9_lost, fun _ => kv_X9_lost, fun z => absurd z (by decide)⟩
theorem kd_X8_mute : Cond.code yX8_mute cX8_mute 1 (some .int) ∈ gz_TB := (gz_in 685 (by decide +kernel) rfl)
theorem ki_X8_mute : Cond.initialized (yX8_mute).cls ∈ gz_TB := (gz_in 78 (by decide +kernel) rfl)
theorem ks_X8_mute : Cond.instanceMethod yX8_mute ∈ gz_TB := (gz_in 683 (by decide +kernel) rfl)
theorem kv_X8_mute : Cond.selects (yX8_mute).cls yX8_mute yX8_mute ∈ gz_TB := (gz_in 684 (by decide +kernel) rfl)
theorem kl_RL_114 : gz_lk 1 RL 114 mX8_mute 0 := ⟨kd_X8_mute, ki_X8_mute, Or.inl (gz_in 682 (by decide +kernel) rfl), by decide, ⟨by decide +kernel, by decide +kernel, by decide +kernel⟩, fun z => absurd z (by decide), fun _ => ks_X8_mute, fun _ => kv_X8_mute, fun z => absurd z (by decide)⟩
theorem kd_X9_mute : Cond.code yX9_mute cX9_mute 1 (some .int) ∈ gz_TB := (gz_in 1259 (by decide +kernel) rfl)
theorem ki_X9_mute : Cond.initialized (yX9_mute).cls ∈ gz_TB := (gz_in 88 (by decide +kernel) rfl)
theorem ks_X9_mute : Cond.instanceMethod yX9_mute ∈ gz_TB := (gz_in 1257 (by decide +kernel) rfl)
theorem kv_X9_mute : Cond.selects (yX9_mute).cls yX9_mute yX9_mute ∈ gz_TB := (gz_in 1258 (by decide +kernel) rfl)
theorem kl_RL_117 : gz_lk 1 RL 117 mX9_mute 0 := ⟨kd_X9_mute, ki_X9_mute, Or.inl (gz_in 1256 (by decide +kernel) rfl), by decide, ⟨by decide +kernel, by decide +kernel, by decide +kernel⟩, fun z => absurd z (by decide), fun _ => ks_X9_mute, fun _ => kv_X9_mute, fun z => absurd z (by decide)⟩
theorem kd_X8_walk : Cond.code yX8_walk cX8_walk 7 (some .int) ∈ gz_TB := (gz_in 690 (by decide +kernel) rfl)
theorem ki_X8_walk : Cond.initialized (yX8_walk).cls ∈ gz_TB := (gz_in 78 (by decide +kernel) rfl)
theorem ks_X8_walk : Cond.instanceMethod yX8_walk ∈ gz_TB := (gz_in 688 (by decide +kernel) rfl)
theorem kv_X8_walk : Cond.selects (yX8_walk).cls yX8_walk yX8_walk ∈ gz_TB := (gz_in 689 (by decide +kernel) rfl)
theorem kl_RL_118 : gz_lk 1 RL 118 mX8_walk 3 := ⟨kd_X8_walk, ki_X8_walk, Or.inl (gz_in 687 (by decide +kernel) rfl), by decide, ⟨by decide +kernel, by decide +kernel, by decide +kernel⟩, fun z => absurd z (by decide), fun _ => ks_X8_walk, fun _ => kv_X8_walk, fun z => absurd z (by decide)⟩
theorem kd_X9_walk : Cond.code yX9_walk cX9_walk 8 (some .int) ∈ gz_TB := (gz_in 1263 (by decide +kernel) rfl)
theorem ki_X9_walk : Cond.initialized (yX9_walk).cls ∈ gz_TB := (gz_in 88 (by decide +kernel) rfl)
theorem ks_X9_walk : Cond.instanceMethod yX9_walk ∈ gz_TB := (gz_in 1261 (by decide +kernel) rfl)
theorem kv_X9_walk : Cond.selects (yX9_walk).cls yX9_walk yX9_walk ∈ gz_TB := (gz_in 1262 (by decide +kernel) rfl)
theorem kl_RL_121 : gz_lk 1 RL 121 mX9_walk 3 := ⟨kd_X9_walk, ki_X9_walk, Or.inl (gz_in 1260 (by decide +kernel) rfl), by decide, ⟨by decide +kernel, by decide +kernel, by decide +kernel⟩, fun z => absurd z (by decide), fun _ => ks_X9_walk, fun _ => kv_X9_walk, fun z => absurd z (by decide)⟩
theorem kd_X8_crew : Cond.code yX8_crew cX8_crew 5 (some .int) ∈ gz_TB := (gz_in 705 (by decide +kernel) rfl)
theorem ki_X8_crew : Cond.initialized (yX8_crew).cls ∈ gz_TB := (gz_in 78 (by decide +kernel) rfl)
theorem ks_X8_crew : Cond.instanceMethod yX8_crew ∈ gz_TB := (gz_in 703 (by decide +kernel) rfl)
theorem kv_X8_crew : Cond.selects (yX8_crew).cls yX8_crew yX8_crew ∈ gz_TB := (gz_in 704 (by decide +kernel) rfl)
theorem kl_RL_122 : gz_lk 1 RL 122 mX8_crew 1 := ⟨kd_X8_crew, ki_X8_crew, Or.inl (gz_in 702 (by decide +kernel) rfl), by decide, ⟨by decide +kernel, by decide +kernel, by decide +kernel⟩, fun z => absurd z (by decide), fun _ => ks_X8_crew, fun _ => kv_X8_crew, fun z => absurd z (by decide)⟩
theorem kd_X9_crew : Cond.code yX9_crew cX9_crew 5 (some .int) ∈ gz_TB := (gz_in 1282 (by decide +kernel) rfl)
theorem ki_X9_crew : Cond.initialized (yX9_crew).cls ∈ gz_TB := (gz_in 88 (by decide +kernel) rfl)
theorem ks_X9_crew : Cond.instanceMethod yX9_crew ∈ gz_TB := (gz_in 1280 (by decide +kernel) rfl)
theorem kv_X9_crew : Cond.selects (yX9_crew).cls yX9_crew yX9_crew ∈ gz_TB := (gz_in 1281 (by decide +kernel) rfl)
theorem kl_RL_125 : gz_lk 1 RL 125 mX9_crew 1 := ⟨kd_X9_crew, ki_X9_crew, Or.inl (gz_in 1279 (by decide +kernel) rfl), by decide, ⟨by decide +kernel, by decide +kernel, by decide +kernel⟩, fun z => absurd z (by decide), fun _ => ks_X9_crew, fun _ => kv_X9_crew, fun z => absurd z (by decide)⟩
theorem kd_X8_least : Cond.code yX8_least cX8_least 4 (some .int) ∈ gz_TB := (gz_in 709 (by decide +kernel) rfl)
theorem ki_X8_least : Cond.initialized (yX8_least).cls ∈ gz_TB := (gz_in 78 (by decide +kernel) rfl)
theorem ks_X8_least : Cond.instanceMethod yX8_least ∈ gz_TB := (gz_in 707 (by decide +kernel) rfl)
theorem kv_X8_least : Cond.selects (yX8_least).cls yX8_least yX8_least ∈ gz_TB := (gz_in 708 (by decide +kernel) rfl)
theorem kl_RL_126 : gz_lk 1 RL 126 mX8_least 1 := ⟨kd_X8_least, ki_X8_least, Or.inl (gz_in 706 (by decide +kernel) rfl), by decide, ⟨by decide +kernel, by decide +kernel, by decide +kernel⟩, fun z => absurd z (by decide), fun _ => ks_X8_least, fun _ => kv_X8_least, fun z => absurd z (by decide)⟩
theorem kd_X9_least : Cond.code yX9_least cX9_least 6 (some .int) ∈ gz_TB := (gz_in 1286 (by decide +kernel) rfl)
theorem ki_X9_least : Cond.initialized (yX9_least).cls ∈ gz_TB := (gz_in 88 (by decide +kernel) rfl)
theorem ks_X9_least : Cond.instanceMethod yX9_least ∈ gz_TB := (gz_in 1284 (by decide +kernel) rfl)
theorem kv_X9_least : Cond.selects (yX9_least).cls yX9_least yX9_least ∈ gz_TB := (gz_in 1285 (by decide +kernel) rfl)
theorem kl_RL_129 : gz_lk 1 RL 129 mX9_least 1 := ⟨kd_X9_least, ki_X9_least, Or.inl (gz_in 1283 (by decide +kernel) rfl), by decide, ⟨by decide +kernel, by decide +kernel, by decide +kernel⟩, fun z => absurd z (by decide), fun _ => ks_X9_least, fun _ => kv_X9_least, fun z => absurd z (by decide)⟩
theorem kd_X8_risk : Cond.code yX8_risk cX8_risk 6 (some .int) ∈ gz_TB := (gz_in 724 (by decide +kernel) rfl)
theorem ki_X8_risk : Cond.initialized (yX8_risk).cls ∈ gz_TB := (gz_in 78 (by decide +kernel) rfl)
theorem ks_X8_risk : Cond.instanceMethod yX8_risk ∈ gz_TB := (gz_in 722 (by decide +kernel) rfl)
theorem kv_X8_risk : Cond.selects (yX8_risk).cls yX8_risk yX8_risk ∈ gz_TB := (gz_in 723 (by decide +kernel) rfl)
theorem kl_RL_130 : gz_lk 1 RL 130 mX8_risk 0 := ⟨kd_X8_risk, ki_X8_risk, Or.inl (gz_in 721 (by decide +kernel) rfl), by decide, ⟨by decide +kernel, by decide +kernel, by decide +kernel⟩, fun z => absurd z (by decide), fun _ => ks_X8_risk, fun _ => kv_X8_risk, fun z => absurd z (by decide)⟩
theorem kd_X9_risk : Cond.code yX9_risk cX9_risk 5 (some .int) ∈ gz_TB := (gz_in 1290 (by decide +kernel) rfl)
theorem ki_X9_risk : Cond.initialized (yX9_risk).cls ∈ gz_TB := (gz_in 88 (by decide +kernel) rfl)
theorem ks_X9_risk : Cond.instanceMethod yX9_risk ∈ gz_TB := (gz_in 1288 (by decide +kernel) rfl)
theorem kv_X9_risk : Cond.selects (yX9_risk).cls yX9_risk yX9_risk ∈ gz_TB := (gz_in 1289 (by decide +kernel) rfl)
theorem kl_RL_133 : gz_lk 1 RL 133 mX9_risk 0 := ⟨kd_X9_risk, ki_X9_risk, Or.inl (gz_in 1287 (by decide +kernel) rfl), by decide, ⟨by decide +kernel, by decide +kernel, by decide +kernel⟩, fun z => absurd z (by decide), fun _ => ks_X9_risk, fun _ => kv_X9_risk, fun z => absurd z (by decide)⟩
theorem kd_X8_safe : Cond.code yX8_safe cX8_safe 4 (some .int) ∈ gz_TB := (gz_in 729 (by decide +kernel) rfl)
theorem ki_X8_safe : Cond.initialized (yX8_safe).cls ∈ gz_TB := (gz_in 78 (by decide +kernel) rfl)
theorem ks_X8_safe : Cond.instanceMethod yX8_safe ∈ gz_TB := (gz_in 727 (by decide +kernel) rfl)
theorem kv_X8_safe : Cond.selects (yX8_safe).cls yX8_safe yX8_safe ∈ gz_TB := (gz_in 728 (by decide +kernel) rfl)
theorem kl_RL_134 : gz_lk 1 RL 134 mX8_safe 0 := ⟨kd_X8_safe, ki_X8_safe, Or.inl (gz_in 726 (by decide +kernel) rfl), by decide, ⟨by decide +kernel, by decide +kernel, by decide +kernel⟩, fun z => absurd z (by decide), fun _ => ks_X8_safe, fun _ => kv_X8_safe, fun z => absurd z (by decide)⟩
theorem kd_X9_safe : Cond.code yX9_safe cX9_safe 2 (some .int) ∈ gz_TB := (gz_in 1294 (by decide +kernel) rfl)
theorem ki_X9_safe : Cond.initialized (yX9_safe).cls ∈ gz_TB := (gz_in 88 (by decide +kernel) rfl)
theorem ks_X9_safe : Cond.instanceMethod yX9_safe ∈ gz_TB := (gz_in 1292 (by decide +kernel) rfl)
theorem kv_X9_safe : Cond.selects (yX9_safe).cls yX9_safe yX9_safe ∈ gz_TB := (gz_in 1293 (by decide +kernel) rfl)
theorem kl_RL_137 : gz_lk 1 RL 137 mX9_safe 0 := ⟨kd_X9_safe, ki_X9_safe, Or.inl (gz_in 1291 (by decide +kernel) rfl), by decide, ⟨by decide +kernel, by decide +kernel, by decide +kernel⟩, fun z => absurd z (by decide), fun _ => ks_X9_safe, fun _ => kv_X9_safe, fun z => absurd z (by decide)⟩
theorem kd_X8_share : Cond.code yX8_share cX8_share 6 (some .int) ∈ gz_TB := (gz_in 748 (by decide +kernel) rfl)
theorem ki_X8_share : Cond.initialized (yX8_share).cls ∈ gz_TB := (gz_in 78 (by decide +kernel) rfl)
theorem ks_X8_share : Cond.instanceMethod yX8_share ∈ gz_TB := (gz_in 746 (by decide +kernel) rfl)
theorem kv_X8_share : Cond.selects (yX8_share).cls yX8_share yX8_share ∈ gz_TB := (gz_in 747 (by decide +kernel) rfl)
theorem kl_RL_138 : gz_lk 1 RL 138 mX8_share 1 := ⟨kd_X8_share, ki_X8_share, Or.inl (gz_in 745 (by decide +kernel) rfl), by decide, ⟨by decide +kernel, by decide +kernel, by decide +kernel⟩, fun z => absurd z (by decide), fun _ => ks_X8_share, fun _ => kv_X8_share, fun z => absurd z (by decide)⟩
theorem kd_X9_share : Cond.code yX9_share cX9_share 7 (some .int) ∈ gz_TB := (gz_in 1310 (by decide +kernel) rfl)
theorem ki_X9_share : Cond.initialized (yX9_share).cls ∈ gz_TB := (gz_in 88 (by decide +kernel) rfl)
theorem ks_X9_share : Cond.instanceMethod yX9_share ∈ gz_TB := (gz_in 1308 (by decide +kernel) rfl)
theorem kv_X9_share : Cond.selects (yX9_share).cls yX9_share yX9_share ∈ gz_TB := (gz_in 1309 (by decide +kernel) rfl)
theorem kl_RL_141 : gz_lk 1 RL 141 mX9_share 1 := ⟨kd_X9_share, ki_X9_share, Or.inl (gz_in 1307 (by decide +kernel) rfl), by decide, ⟨by decide +kernel, by decide +kernel, by decide +kernel⟩, fun z => absurd z (by decide), fun _ => ks_X9_share, fun _ => kv_X9_share, fun z => absurd z (by decide)⟩
theorem kd_X8_held : Cond.code yX8_held cX8_held 5 (some .int) ∈ gz_TB := (gz_in 760 (by decide +kernel) rfl)
theorem ki_X8_held : Cond.initialized (yX8_held).cls ∈ gz_TB := (gz_in 78 (by decide +kernel) rfl)
theorem ks_X8_held : Cond.instanceMethod yX8_held ∈ gz_TB := (gz_in 758 (by decide +kernel) rfl)
theorem kv_X8_held : Cond.selects (yX8_held).cls yX8_held yX8_held ∈ gz_TB := (gz_in 759 (by decide +kernel) rfl)
theorem kl_RL_142 : gz_lk 1 RL 142 mX8_held 2 := ⟨kd_X8_held, ki_X8_held, Or.inl (gz_in 757 (by decide +kernel) rfl), by decide, ⟨by decide +kernel, by decide +kernel, by decide +kernel⟩, fun z => absurd z (by decide), fun _ => ks_X8_held, fun _ => kv_X8_held, fun z => absurd z (by decide)⟩
theorem kd_X9_held : Cond.code yX9_held cX9_held 7 (some .int) ∈ gz_TB := (gz_in 1319 (by decide +kernel) rfl)
theorem ki_X9_held : Cond.initialized (yX9_held).cls ∈ gz_TB := (gz_in 88 (by decide +kernel) rfl)
theorem ks_X9_held : Cond.instanceMethod yX9_held ∈ gz_TB := (gz_in 1317 (by decide +kernel) rfl)
theorem kv_X9_held : Cond.selects (yX9_held).cls yX9_held yX9_held ∈ gz_TB := (gz_in 1318 (by decide +kernel) rfl)
theorem kl_RL_145 : gz_lk 1 RL 145 mX9_held 2 := ⟨kd_X9_held, ki_X9_held, Or.inl (gz_in 1316 (by decide +kernel) rfl), by decide, ⟨by decide +kernel, by decide +kernel, by decide +kernel⟩, fun z => absurd z (by decide), fun _ => ks_X9_held, fun _ => kv_X9_held, fun z => absurd z (by decide)⟩
theorem kd_X8_kinds : Cond.code yX8_kinds cX8_kinds 6 (some .int) ∈ gz_TB := (gz_in 785 (by decide +kernel) rfl)
theorem ki_X8_kinds : Cond.initialized (yX8_kinds).cls ∈ gz_TB := (gz_in 78 (by decide +kernel) rfl)
theorem ks_X8_kinds : Cond.instanceMethod yX8_kinds ∈ gz_TB := (gz_in 783 (by decide +kernel) rfl)
theorem kv_X8_kinds : Cond.selects (yX8_kinds).cls yX8_kinds yX8_kinds ∈ gz_TB := (gz_in 784 (by decide +kernel) rfl)
theorem kl_RL_146 : gz_lk 1 RL 146 mX8_kinds 2 := ⟨kd_X8_kinds, ki_X8_kinds, Or.inl (gz_in 782 (by decide +kernel) rfl), by decide, ⟨by decide +kernel, by decide +kernel, by decide +kernel⟩, fun z => absurd z (by decide), fun _ => ks_X8_kinds, fun _ => kv_X8_kinds, fun z => absurd z (by decide)⟩
theorem kd_X9_kinds : Cond.code yX9_kinds cX9_kinds 6 (some .int) ∈ gz_TB := (gz_in 1339 (by decide +kernel) rfl)
theorem ki_X9_kinds : Cond.initialized (yX9_kinds).cls ∈ gz_TB := (gz_in 88 (by decide +kernel) rfl)
theorem ks_X9_kinds : Cond.instanceMethod yX9_kinds ∈ gz_TB := (gz_in 1337 (by decide +kernel) rfl)
theorem kv_X9_kinds : Cond.selects (yX9_kinds).cls yX9_kinds yX9_kinds ∈ gz_TB := (gz_in 1338 (by decide +kernel) rfl)
theorem kl_RL_149 : gz_lk 1 RL 149 mX9_kinds 2 := ⟨kd_X9_kinds, ki_X9_kinds, Or.inl (gz_in 1336 (by decide +kernel) rfl), by decide, ⟨by decide +kernel, by decide +kernel, by decide +kernel⟩, fun z => absurd z (by decide), fun _ => ks_X9_kinds, fun _ => kv_X9_kinds, fun z => absurd z (by decide)⟩
theorem kd_X8_odds : Cond.code yX8_odds cX8_odds 6 (some .int) ∈ gz_TB := (gz_in 789 (by decide +kernel) rfl)
theorem ki_X8_odds : Cond.initialized (yX8_odds).cls ∈ gz_TB := (gz_in 78 (by decide +kernel) rfl)
theorem ks_X8_odds : Cond.instanceMethod yX8_odds ∈ gz_TB := (gz_in 787 (by decide +kernel) rfl)
theorem kv_X8_odds : Cond.selects (yX8_odds).cls yX8_odds yX8_odds ∈ gz_TB := (gz_in 788 (by decide +kernel) rfl)
theorem kl_RL_150 : gz_lk 1 RL 150 mX8_odds 2 := ⟨kd_X8_odds, ki_X8_odds, Or.inl (gz_in 786 (by decide +kernel) rfl), by decide, ⟨by decide +kernel, by decide +kernel, by decide +kernel⟩, fun z => absurd z (by decide), fun _ => ks_X8_odds, fun _ => kv_X8_odds, fun z => absurd z (by decide)⟩
theorem kd_X9_odds : Cond.code yX9_odds cX9_odds 8 (some .int) ∈ gz_TB := (gz_in 1343 (by decide +kernel) rfl)
theorem ki_X9_odds : Cond.initialized (yX9_odds).cls ∈ gz_TB := (gz_in 88 (by decide +kernel) rfl)
theorem ks_X9_odds : Cond.instanceMethod yX9_odds ∈ gz_TB := (gz_in 1341 (by decide +kernel) rfl)
theorem kv_X9_odds : Cond.selects (yX9_odds).cls yX9_odds yX9_odds ∈ gz_TB := (gz_in 1342 (by decide +kernel) rfl)
theorem kl_RL_153 : gz_lk 1 RL 153 mX9_odds 2 := ⟨kd_X9_odds, ki_X9_odds, Or.inl (gz_in 1340 (by decide +kernel) rfl), by decide, ⟨by decide +kernel, by decide +kernel, by decide +kernel⟩, fun z => absurd z (by decide), fun _ => ks_X9_odds, fun _ => kv_X9_odds, fun z => absurd z (by decide)⟩
theorem kd_X8_mid : Cond.code yX8_mid cX8_mid 5 (some .int) ∈ gz_TB := (gz_in 806 (by decide +kernel) rfl)
theorem ki_X8_mid : Cond.initialized (yX8_mid).cls ∈ gz_TB := (gz_in 78 (by decide +kernel) rfl)
theorem ks_X8_mid : Cond.instanceMethod yX8_mid ∈ gz_TB := (gz_in 804 (by decide +kernel) rfl)
theorem kv_X8_mid : Cond.selects (yX8_mid).cls yX8_mid yX8_mid ∈ gz_TB := (gz_in 805 (by decide +kernel) rfl)
theorem kl_RL_154 : gz_lk 1 RL 154 mX8_mid 1 := ⟨kd_X8_mid, ki_X8_mid, Or.inl (gz_in 803 (by decide +kernel) rfl), by decide, ⟨by decide +kernel, by decide +kernel, by decide +kernel⟩, fun z => absurd z (by decide), fun _ => ks_X8_mid, fun _ => kv_X8_mid, fun z => absurd z (by decide)⟩
theorem kd_X9_mid : Cond.code yX9_mid cX9_mid 7 (some .int) ∈ gz_TB := (gz_in 1356 (by decide +kernel) rfl)
theorem ki_X9_mid : Cond.initialized (yX9_mid).cls ∈ gz_TB := (gz_in 88 (by decide +kernel) rfl)
theorem ks_X9_mid : Cond.instanceMethod yX9_mid ∈ gz_TB := (gz_in 1354 (by decide +kernel) rfl)
theorem kv_X9_mid : Cond.selects (yX9_mid).cls yX9_mid yX9_mid ∈ gz_TB := (gz_in 1355 (by decide +kernel) rfl)
theorem kl_RL_157 : gz_lk 1 RL 157 mX9_mid 1 := ⟨kd_X9_mid, ki_X9_mid, Or.inl (gz_in 1353 (by decide +kernel) rfl), by decide, ⟨by decide +kernel, by decide +kernel, by decide +kernel⟩, fun z => absurd z (by decide), fun _ => ks_X9_mid, fun _ => kv_X9_mid, fun z => absurd z (by decide)⟩
theorem kd_X8_lots : Cond.code yX8_lots cX8_lots 6 (some .int) ∈ gz_TB := (gz_in 810 (by decide +kernel) rfl)
theorem ki_X8_lots : Cond.initialized (yX8_lots).cls ∈ gz_TB := (gz_in 78 (by decide +kernel) rfl)
theorem ks_X8_lots : Cond.instanceMethod yX8_lots ∈ gz_TB := (gz_in 808 (by decide +kernel) rfl)
theorem kv_X8_lots : Cond.selects (yX8_lots).cls yX8_lots yX8_lots ∈ gz_TB := (gz_in 809 (by decide +kernel) rfl)
theorem kl_RL_158 : gz_lk 1 RL 158 mX8_lots 2 := ⟨kd_X8_lots, ki_X8_lots, Or.inl (gz_in 807 (by decide +kernel) rfl), by decide, ⟨by decide +kernel, by decide +kernel, by decide +kernel⟩, fun z => absurd z (by decide), fun _ => ks_X8_lots, fun _ => kv_X8_lots, fun z => absurd z (by decide)⟩
theorem kd_X9_lots : Cond.code yX9_lots cX9_lots 7 (some .int) ∈ gz_TB := (gz_in 1360 (by decide +kernel) rfl)
theorem ki_X9_lots : Cond.initialized (yX9_lots).cls ∈ gz_TB := (gz_in 88 (by decide +kernel) rfl)
theorem ks_X9_lots : Cond.instanceMethod yX9_lots ∈ gz_TB := (gz_in 1358 (by decide +kernel) rfl)
theorem kv_X9_lots : Cond.selects (yX9_lots).cls yX9_lots yX9_lots ∈ gz_TB := (gz_in 1359 (by decide +kernel) rfl)
theorem kl_RL_161 : gz_lk 1 RL 161 mX9_lots 2 := ⟨kd_X9_lots, ki_X9_lots, Or.inl (gz_in 1357 (by decide +kernel) rfl), by decide, ⟨by decide +kernel, by decide +kernel, by decide +kernel⟩, fun z => absurd z (by decide), fun _ => ks_X9_lots, fun _ => kv_X9_lots, fun z => absurd z (by decide)⟩
theorem kd_X8_asked : Cond.code yX8_asked cX8_asked 1 (some .int) ∈ gz_TB := (gz_in 824 (by decide +kernel) rfl)
theorem ki_X8_asked : Cond.initialized (yX8_asked).cls ∈ gz_TB := (gz_in 78 (by decide +kernel) rfl)
theorem ks_X8_asked : Cond.instanceMethod yX8_asked ∈ gz_TB := (gz_in 822 (by decide +kernel) rfl)
theorem kv_X8_asked : Cond.selects (yX8_asked).cls yX8_asked yX8_asked ∈ gz_TB := (gz_in 823 (by decide +kernel) rfl)
theorem kl_RL_162 : gz_lk 1 RL 162 mX8_asked 0 := ⟨kd_X8_asked, ki_X8_asked, Or.inl (gz_in 821 (by decide +kernel) rfl), by decide, ⟨by decide +kernel, by decide +kernel, by decide +kernel⟩, fun z => absurd z (by decide), fun _ => ks_X8_asked, fun _ => kv_X8_asked, fun z => absurd z (by decide)⟩
theorem kd_X9_asked : Cond.code yX9_asked cX9_asked 1 (some .int) ∈ gz_TB := (gz_in 1370 (by decide +kernel) rfl)
theorem ki_X9_asked : Cond.initialized (yX9_asked).cls ∈ gz_TB := (gz_in 88 (by decide +kernel) rfl)
theorem ks_X9_asked : Cond.instanceMethod yX9_asked ∈ gz_TB := (gz_in 1368 (by decide +kernel) rfl)
theorem kv_X9_asked : Cond.selects (yX9_asked).cls yX9_asked yX9_asked ∈ gz_TB := (gz_in 1369 (by decide +kernel) rfl)
theorem kl_RL_165 : gz_lk 1 RL 165 mX9_asked 0 := ⟨kd_X9_asked, ki_X9_asked, Or.inl (gz_in 1367 (by decide +kernel) rfl), by decide, ⟨by decide +kernel, by decide +kernel, by decide +kernel⟩, fun z => absurd z (by decide), fun _ => ks_X9_asked, fun _ => kv_X9_asked, fun z => absurd z (by decide)⟩
theorem kd_X8_upper : Cond.code yX8_upper cX8_upper 1 (some .long) ∈ gz_TB := (gz_in 828 (by decide +kernel) rfl)
theorem ki_X8_upper : Cond.initialized (yX8_upper).cls ∈ gz_TB := (gz_in 78 (by decide +kernel) rfl)
theorem ks_X8_upper : Cond.instanceMethod yX8_upper ∈ gz_TB := (gz_in 826 (by decide +kernel) rfl)
theorem kv_X8_upper : Cond.selects (yX8_upper).cls yX8_upper yX8_upper ∈ gz_TB := (gz_in 827 (by decide +kernel) rfl)
theorem kl_RL_166 : gz_lk 1 RL 166 mX8_upper 0 := ⟨kd_X8_upper, ki_X8_upper, Or.inl (gz_in 825 (by decide +kernel) rfl), by decide, ⟨by decide +kernel, by decide +kernel, by decide +kernel⟩, fun z => absurd z (by decide), fun _ => ks_X8_upper, fun _ => kv_X8_upper, fun z => absurd z (by decide)⟩
theorem kd_X9_upper : Cond.code yX9_upper cX9_upper 1 (some .long) ∈ gz_TB := (gz_in 1374 (by decide +kernel) rfl)
theorem ki_X9_upper : Cond.initialized (yX9_upper).cls ∈ gz_TB := (gz_in 88 (by decide +kernel) rfl)
theorem ks_X9_upper : Cond.instanceMethod yX9_upper ∈ gz_TB := (gz_in 1372 (by decide +kernel) rfl)
theorem kv_X9_upper : Cond.selects (yX9_upper).cls yX9_upper yX9_upper ∈ gz_TB := (gz_in 1373 (by decide +kernel) rfl)
theorem kl_RL_170 : gz_lk 1 RL 170 mX9_upper 0 := ⟨kd_X9_upper, ki_X9_upper, Or.inl (gz_in 1371 (by decide +kernel) rfl), by decide, ⟨by decide +kernel, by decide +kernel, by decide +kernel⟩, fun z => absurd z (by decide), fun _ => ks_X9_upper, fun _ => kv_X9_upper, fun z => absurd z (by decide)⟩
theorem kd_X8_lower : Cond.code yX8_lower cX8_lower 1 (some .long) ∈ gz_TB := (gz_in 832 (by decide +kernel) rfl)
theorem ki_X8_lower : Cond.initialized (yX8_lower).cls ∈ gz_TB := (gz_in 78 (by decide +kernel) rfl)
theorem ks_X8_lower : Cond.instanceMethod yX8_lower ∈ gz_TB := (gz_in 830 (by decide +kernel) rfl)
theorem kv_X8_lower : Cond.selects (yX8_lower).cls yX8_lower yX8_lower ∈ gz_TB := (gz_in 831 (by decide +kernel) rfl)
theorem kl_RL_171 : gz_lk 1 RL 171 mX8_lower 0 := ⟨kd_X8_lower, ki_X8_lower, Or.inl (gz_in 829 (by decide +kernel) rfl), by decide, ⟨by decide +kernel, by decide +kernel, by decide +kernel⟩, fun z => absurd z (by decide), fun _ => ks_X8_lower, fun _ => kv_X8_lower, fun z => absurd z (by decide)⟩
theorem kd_X9_lower : Cond.code yX9_lower cX9_lower 1 (some .long) ∈ gz_TB := (gz_in 1378 (by decide +kernel) rfl)
theorem ki_X9_lower : Cond.initialized (yX9_lower).cls ∈ gz_TB := (gz_in 88 (by decide +kernel) rfl)
theorem ks_X9_lower : Cond.instanceMethod yX9_lower ∈ gz_TB := (gz_in 1376 (by decide +kernel) rfl)
theorem kv_X9_lower : Cond.selects (yX9_lower).cls yX9_lower yX9_lower ∈ gz_TB := (gz_in 1377 (by decide +kernel) rfl)
theorem kl_RL_174 : gz_lk 1 RL 174 mX9_lower 0 := ⟨kd_X9_lower, ki_X9_lower, Or.inl (gz_in 1375 (by decide +kernel) rfl), by decide, ⟨by decide +kernel, by decide +kernel, by decide +kernel⟩, fun z => absurd z (by decide), fun _ => ks_X9_lower, fun _ => kv_X9_lower, fun z => absurd z (by decide)⟩
theorem kd_X8_count : Cond.code yX8_count cX8_count 2 (some .int) ∈ gz_TB := (gz_in 836 (by decide +kernel) rfl)
theorem ki_X8_count : Cond.initialized (yX8_count).cls ∈ gz_TB := (gz_in 78 (by decide +kernel) rfl)
theorem ks_X8_count : Cond.instanceMethod yX8_count ∈ gz_TB := (gz_in 834 (by decide +kernel) rfl)
theorem kv_X8_count : Cond.selects (yX8_count).cls yX8_count yX8_count ∈ gz_TB := (gz_in 835 (by decide +kernel) rfl)
theorem kl_RL_175 : gz_lk 1 RL 175 mX8_count 1 := ⟨kd_X8_count, ki_X8_count, Or.inl (gz_in 833 (by decide +kernel) rfl), by decide, ⟨by decide +kernel, by decide +kernel, by decide +kernel⟩, fun z => absurd z (by decide), fun _ => ks_X8_count, fun _ => kv_X8_count, fun z => absurd z (by decide)⟩
theorem kd_X9_count : Cond.code yX9_count cX9_count 2 (some .int) ∈ gz_TB := (gz_in 1382 (by decide +kernel) rfl)
theorem ki_X9_count : Cond.initialized (yX9_count).cls ∈ gz_TB := (gz_in 88 (by decide +kernel) rfl)
theorem ks_X9_count : Cond.instanceMethod yX9_count ∈ gz_TB := (gz_in 1380 (by decide +kernel) rfl)
theorem kv_X9_count : Cond.selects (yX9_count).cls yX9_count yX9_count ∈ gz_TB := (gz_in 1381 (by decide +kernel) rfl)
theorem kl_RL_178 : gz_lk 1 RL 178 mX9_count 1 := ⟨kd_X9_count, ki_X9_count, Or.inl (gz_in 1379 (by decide +kernel) rfl), by decide, ⟨by decide +kernel, by decide +kernel, by decide +kernel⟩, fun z => absurd z (by decide), fun _ => ks_X9_count, fun _ => kv_X9_count, fun z => absurd z (by decide)⟩
theorem kd_X8_finding : Cond.code yX8_finding cX8_finding 1 (some .int) ∈ gz_TB := (gz_in 858 (by decide +kernel) rfl)
theorem ki_X8_finding : Cond.initialized (yX8_finding).cls ∈ gz_TB := (gz_in 78 (by decide +kernel) rfl)
theorem ks_X8_finding : Cond.instanceMethod yX8_finding ∈ gz_TB := (gz_in 856 (by decide +kernel) rfl)
theorem kv_X8_finding : Cond.selects (yX8_finding).cls yX8_finding yX8_finding ∈ gz_TB := (gz_in 857 (by decide +kernel) rfl)
theorem kl_RL_179 : gz_lk 1 RL 179 mX8_finding 0 := ⟨kd_X8_finding, ki_X8_finding, Or.inl (gz_in 855 (by decide +kernel) rfl), by decide, ⟨by decide +kernel, by decide +kernel, by decide +kernel⟩, fun z => absurd z (by decide), fun _ => ks_X8_finding, fun _ => kv_X8_finding, fun z => absurd z (by decide)⟩
theorem kd_X9_finding : Cond.code yX9_finding cX9_finding 1 (some .int) ∈ gz_TB := (gz_in 1398 (by decide +kernel) rfl)
theorem ki_X9_finding : Cond.initialized (yX9_finding).cls ∈ gz_TB := (gz_in 88 (by decide +kernel) rfl)
theorem ks_X9_finding : Cond.instanceMethod yX9_finding ∈ gz_TB := (gz_in 1396 (by decide +kernel) rfl)
theorem kv_X9_finding : Cond.selects (yX9_finding).cls yX9_finding yX9_finding ∈ gz_TB := (gz_in 1397 (by decide +kernel) rfl)
theorem kl_RL_182 : gz_lk 1 RL 182 mX9_finding 0 := ⟨kd_X9_finding, ki_X9_finding, Or.inl (gz_in 1395 (by decide +kernel) rfl), by decide, ⟨by decide +kernel, by decide +kernel, by decide +kernel⟩, fun z => absurd z (by decide), fun _ => ks_X9_finding, fun _ => kv_X9_finding, fun z => absurd z (by decide)⟩
theorem kd_X8_findings : Cond.code yX8_findings cX8_findings 2 (some .int) ∈ gz_TB := (gz_in 862 (by decide +kernel) rfl)
theorem ki_X8_findings : Cond.initialized (yX8_findings).cls ∈ gz_TB := (gz_in 78 (by decide +kernel) rfl)
theorem ks_X8_findings : Cond.instanceMethod yX8_findings ∈ gz_TB := (gz_in 860 (by decide +kernel) rfl)
theorem kv_X8_findings : Cond.selects (yX8_findings).cls yX8_findings yX8_findings ∈ gz_TB := (gz_in 861 (by decide +kernel) rfl)
theorem kl_RL_183 : gz_lk 1 RL 183 mX8_findings 1 := ⟨kd_X8_findings, ki_X8_findings, Or.inl (gz_in 859 (by decide +kernel) rfl), by decide, ⟨by decide +kernel, by decide +kernel, by decide +kernel⟩, fun z => absurd z (by decide), fun _ => ks_X8_findings, fun _ => kv_X8_findings, fun z => absurd z (by decide)⟩
theorem kd_X9_findings : Cond.code yX9_findings cX9_findings 2 (some .int) ∈ gz_TB := (gz_in 1402 (by decide +kernel) rfl)
theorem ki_X9_findings : Cond.initialized (yX9_findings).cls ∈ gz_TB := (gz_in 88 (by decide +kernel) rfl)
theorem ks_X9_findings : Cond.instanceMethod yX9_findings ∈ gz_TB := (gz_in 1400 (by decide +kernel) rfl)
theorem kv_X9_findings : Cond.selects (yX9_findings).cls yX9_findings yX9_findings ∈ gz_TB := (gz_in 1401 (by decide +kernel) rfl)
theorem kl_RL_186 : gz_lk 1 RL 186 mX9_findings 1 := ⟨kd_X9_findings, ki_X9_findings, Or.inl (gz_in 1399 (by decide +kernel) rfl), by decide, ⟨by decide +kernel, by decide +kernel, by decide +kernel⟩, fun z => absurd z (by decide), fun _ => ks_X9_findings, fun _ => kv_X9_findings, fun z => absurd z (by decide)⟩
theorem kd_X8_digest : Cond.code yX8_digest cX8_digest 4 (some .long) ∈ gz_TB := (gz_in 866 (by decide +kernel) rfl)
theorem ki_X8_digest : Cond.initialized (yX8_digest).cls ∈ gz_TB := (gz_in 78 (by decide +kernel) rfl)
theorem ks_X8_digest : Cond.instanceMethod yX8_digest ∈ gz_TB := (gz_in 864 (by decide +kernel) rfl)
theorem kv_X8_digest : Cond.selects (yX8_digest).cls yX8_digest yX8_digest ∈ gz_TB := (gz_in 865 (by decide +kernel) rfl)
theorem kl_RL_187 : gz_lk 1 RL 187 mX8_digest 0 := ⟨kd_X8_digest, ki_X8_digest, Or.inl (gz_in 863 (by decide +kernel) rfl), by decide, ⟨by decide +kernel, by decide +kernel, by decide +kernel⟩, fun z => absurd z (by decide), fun _ => ks_X8_digest, fun _ => kv_X8_digest, fun z => absurd z (by decide)⟩
theorem kd_X9_digest : Cond.code yX9_digest cX9_digest 5 (some .long) ∈ gz_TB := (gz_in 1406 (by decide +kernel) rfl)
theorem ki_X9_digest : Cond.initialized (yX9_digest).cls ∈ gz_TB := (gz_in 88 (by decide +kernel) rfl)
theorem ks_X9_digest : Cond.instanceMethod yX9_digest ∈ gz_TB := (gz_in 1404 (by decide +kernel) rfl)
theorem kv_X9_digest : Cond.selects (yX9_digest).cls yX9_digest yX9_digest ∈ gz_TB := (gz_in 1405 (by decide +kernel) rfl)
theorem kl_RL_190 : gz_lk 1 RL 190 mX9_digest 0 := ⟨kd_X9_digest, ki_X9_digest, Or.inl (gz_in 1403 (by decide +kernel) rfl), by decide, ⟨by decide +kernel, by decide +kernel, by decide +kernel⟩, fun z => absurd z (by decide), fun _ => ks_X9_digest, fun _ => kv_X9_digest, fun z => absurd z (by decide)⟩
theorem kd_X9_find : Cond.code yX9_find cX9_find 2 (some .int) ∈ gz_TB := (gz_in 993 (by decide +kernel) rfl)
theorem ki_X9_find : Cond.initialized (yX9_find).cls ∈ gz_TB := (gz_in 88 (by decide +kernel) rfl)
theorem ks_X9_find : Cond.instanceMethod yX9_find ∈ gz_TB := (gz_in 992 (by decide +kernel) rfl)
theorem kv_X9_find : Cond.selects (yX9_find).cls yX9_find yX9_find ∈ gz_TB := (gz_in 24 (by decide +kernel) rfl)
theorem kl_RX9_84 : gz_lk 1 RX9 84 mX9_find 1 := ⟨kd_X9_find, ki_X9_find, Or.inl (gz_in 990 (by decide +kernel) rfl), by decide, ⟨by decide +kernel, by decide +kernel, by decide +kernel⟩, fun z => absurd z (by decide), fun _ => ks_X9_find, fun _ => kv_X9_find, fun z => absurd z (by decide)⟩
theorem kd_X9_makeRow : Cond.code yX9_makeRow cX9_makeRow 4 none ∈ gz_TB := (gz_in 997 (by decide +kernel) rfl)
theorem ki_X9_makeRow : Cond.initialized (yX9_makeRow).cls ∈ gz_TB := (gz_in 88 (by decide +kernel) rfl)
theorem ks_X9_makeRow : Cond.instanceMethod yX9_makeRow ∈ gz_TB := (gz_in 996 (by decide +kernel) rfl)
theorem kv_X9_makeRow : Cond.selects (yX9_makeRow).cls yX9_makeRow yX9_makeRow ∈ gz_TB := (gz_in 25 (by decide +kernel) rfl)
theorem kl_RX9_88 : gz_lk 1 RX9 88 mX9_makeRow 2 := ⟨kd_X9_makeRow, ki_X9_makeRow, Or.inl (gz_in 994 (by decide +kernel) rfl), by decide, ⟨by decide +kernel, by decide +kernel, by decide +kernel⟩, fun z => absurd z (by decide), fun _ => ks_X9_makeRow, fun _ => kv_X9_makeRow, fun z => absurd z (by decide)⟩
theorem kd_X9_refused : Cond.code yX9_refused cX9_refused 3 (some .int) ∈ gz_TB := (gz_in 1005 (by decide +kernel) rfl)
theorem ki_X9_refused : Cond.initialized (yX9_refused).cls ∈ gz_TB := (gz_in 88 (by decide +kernel) rfl)
theorem ks_X9_refused : Cond.instanceMethod yX9_refused ∈ gz_TB := (gz_in 1004 (by decide +kernel) rfl)
theorem kv_X9_refused : Cond.selects (yX9_refused).cls yX9_refused yX9_refused ∈ gz_TB := (gz_in 26 (by decide +kernel) rfl)
theorem kl_RX9_92 : gz_lk 1 RX9 92 mX9_refused 2 := ⟨kd_X9_refused, ki_X9_refused, Or.inl (gz_in 1002 (by decide +kernel) rfl), by decide, ⟨by decide +kernel, by decide +kernel, by decide +kernel⟩, fun z => absurd z (by decide), fun _ => ks_X9_refused, fun _ => kv_X9_refused, fun z => absurd z (by decide)⟩
theorem kd_X9_tell : Cond.code yX9_tell cX9_tell 2 (some .int) ∈ gz_TB := (gz_in 1009 (by decide +kernel) rfl)
theorem ki_X9_tell : Cond.initialized (yX9_tell).cls ∈ gz_TB := (gz_in 88 (by decide +kernel) rfl)
theorem ks_X9_tell : Cond.instanceMethod yX9_tell ∈ gz_TB := (gz_in 1008 (by decide +kernel) rfl)
theorem kv_X9_tell : Cond.selects (yX9_tell).cls yX9_tell yX9_tell ∈ gz_TB := (gz_in 27 (by decide +kernel) rfl)
theorem kl_RX9_96 : gz_lk 1 RX9 96 mX9_tell 1 := ⟨kd_X9_tell, ki_X9_tell, Or.inl (gz_in 1006 (by decide +kernel) rfl), by decide, ⟨by decide +kernel, by decide +kernel, by decide +kernel⟩, fun z => absurd z (by decide), fun _ => ks_X9_tell, fun _ => kv_X9_tell, fun z => absurd z (by decide)⟩
theorem kd_X9_isSpan : Cond.code yX9_isSpan cX9_isSpan 4 (some .boolean) ∈ gz_TB := (gz_in 1025 (by decide +kernel) rfl)
theorem ki_X9_isSpan : Cond.initialized (yX9_isSpan).cls ∈ gz_TB := (gz_in 88 (by decide +kernel) rfl)
theorem ks_X9_isSpan : Cond.instanceMethod yX9_isSpan ∈ gz_TB := (gz_in 1024 (by decide +kernel) rfl)
theorem kv_X9_isSpan : Cond.selects (yX9_isSpan).cls yX9_isSpan yX9_isSpan ∈ gz_TB := (gz_in 28 (by decide +kernel) rfl)
theorem kl_RX9_99 : gz_lk 1 RX9 99 mX9_isSpan 3 := ⟨kd_X9_isSpan, ki_X9_isSpan, Or.inl (gz_in 1022 (by decide +kernel) rfl), by decide, ⟨by decide +kernel, by decide +kernel, by decide +kernel⟩, fun z => absurd z (by decide), fun _ => ks_X9_isSpan, fun _ => kv_X9_isSpan, fun z => absurd z (by decide)⟩
theorem kd_X9_here : Cond.code yX9_here cX9_here 1 (some .int) ∈ gz_TB := (gz_in 1061 (by decide +kernel) rfl)
theorem ki_X9_here : Cond.initialized (yX9_here).cls ∈ gz_TB := (gz_in 88 (by decide +kernel) rfl)
theorem ks_X9_here : Cond.instanceMethod yX9_here ∈ gz_TB := (gz_in 1060 (by decide +kernel) rfl)
theorem kv_X9_here : Cond.selects (yX9_here).cls yX9_here yX9_here ∈ gz_TB := (gz_in 32 (by decide +kernel) rfl)
theorem kl_RX9_115 : gz_lk 1 RX9 115 mX9_here 0 := ⟨kd_X9_here, ki_X9_here, Or.inl (gz_in 1058 (by decide +kernel) rfl), by decide, ⟨by decide +kernel, by decide +kernel, by decide +kernel⟩, fun z => absurd z (by decide), fun _ => ks_X9_here, fun _ => kv_X9_here, fun z => absurd z (by decide)⟩
theorem kd_X9_skip : Cond.code yX9_skip cX9_skip 1 none ∈ gz_TB := (gz_in 1057 (by decide +kernel) rfl)
theorem ki_X9_skip : Cond.initialized (yX9_skip).cls ∈ gz_TB := (gz_in 88 (by decide +kernel) rfl)
theorem ks_X9_skip : Cond.instanceMethod yX9_skip ∈ gz_TB := (gz_in 1056 (by decide +kernel) rfl)
theorem kv_X9_skip : Cond.selects (yX9_skip).cls yX9_skip yX9_skip ∈ gz_TB := (gz_in 31 (by decide +kernel) rfl)
theorem kl_RX9_123 : gz_lk 1 RX9 123 mX9_skip 0 := ⟨kd_X9_skip, ki_X9_skip, Or.inl (gz_in 1054 (by decide +kernel) rfl), by decide, ⟨by decide +kernel, by decide +kernel, by decide +kernel⟩, fun z => absurd z (by decide), fun _ => ks_X9_skip, fun _ => kv_X9_skip, fun z => absurd z (by decide)⟩
theorem kd_X9_isFigure : Cond.code yX9_isFigure cX9_isFigure 1 (some .boolean) ∈ gz_TB := (gz_in 1065 (by decide +kernel) rfl)
theorem ki_X9_isFigure : Cond.initialized (yX9_isFigure).cls ∈ gz_TB := (gz_in 88 (by decide +kernel) rfl)
theorem ks_X9_isFigure : Cond.instanceMethod yX9_isFigure ∈ gz_TB := (gz_in 1064 (by decide +kernel) rfl)
theorem kv_X9_isFigure : Cond.selects (yX9_isFigure).cls yX9_isFigure yX9_isFigure ∈ gz_TB := (gz_in 33 (by decide +kernel) rfl)
theorem kl_RX9_126 : gz_lk 1 RX9 126 mX9_isFigure 0 := ⟨kd_X9_isFigure, ki_X9_isFigure, Or.inl (gz_in 1062 (by decide +kernel) rfl), by decide, ⟨by decide +kernel, by decide +kernel, by decide +kernel⟩, fun z => absurd z (by decide), fun _ => ks_X9_isFigure, fun _ => kv_X9_isFigure, fun z => absurd z (by decide)⟩
theorem kd_X9_figure : Cond.code yX9_figure cX9_figure 3 (some .int) ∈ gz_TB := (gz_in 1071 (by decide +kernel) rfl)
theorem ki_X9_figure : Cond.initialized (yX9_figure).cls ∈ gz_TB := (gz_in 88 (by decide +kernel) rfl)
theorem ks_X9_figure : Cond.instanceMethod yX9_figure ∈ gz_TB := (gz_in 1070 (by decide +kernel) rfl)
theorem kv_X9_figure : Cond.selects (yX9_figure).cls yX9_figure yX9_figure ∈ gz_TB := (gz_in 34 (by decide +kernel) rfl)
theorem kl_RX9_133 : gz_lk 1 RX9 133 mX9_figure 2 := ⟨kd_X9_figure, ki_X9_figure, Or.inl (gz_in 1068 (by decide +kernel) rfl), by decide, ⟨by decide +kernel, by decide +kernel, by decide +kernel⟩, fun z => absurd z (by decide), fun _ => ks_X9_figure, fun _ => kv_X9_figure, fun z => absurd z (by decide)⟩
theorem kd_X9_readsFacts : Cond.code yX9_readsFacts cX9_readsFacts 3 (some .boolean) ∈ gz_TB := (gz_in 1053 (by decide +kernel) rfl)
theorem ki_X9_readsFacts : Cond.initialized (yX9_readsFacts).cls ∈ gz_TB := (gz_in 88 (by decide +kernel) rfl)
theorem ks_X9_readsFacts : Cond.instanceMethod yX9_readsFacts ∈ gz_TB := (gz_in 1052 (by decide +kernel) rfl)
theorem kv_X9_readsFacts : Cond.selects (yX9_readsFacts).cls yX9_readsFacts yX9_readsFacts ∈ gz_TB := (gz_in 30 (by decide +kernel) rfl)
theorem kl_RX9_146 : gz_lk 1 RX9 146 mX9_readsFacts 0 := ⟨kd_X9_readsFacts, ki_X9_readsFacts, Or.inl (gz_in 1050 (by decide +kernel) rfl), by decide, ⟨by decide +kernel, by decide +kernel, by decide +kernel⟩, fun z => absurd z (by decide), fun _ => ks_X9_readsFacts, fun _ => kv_X9_readsFacts, fun z => absurd z (by decide)⟩
theorem kd_X9_readsGoose : Cond.code yX9_readsGoose cX9_readsGoose 7 (some .boolean) ∈ gz_TB := (gz_in 1075 (by decide +kernel) rfl)
theorem ki_X9_readsGoose : Cond.initialized (yX9_readsGoose).cls ∈ gz_TB := (gz_in 88 (by decide +kernel) rfl)
theorem ks_X9_readsGoose : Cond.instanceMethod yX9_readsGoose ∈ gz_TB := (gz_in 1074 (by decide +kernel) rfl)
theorem kv_X9_readsGoose : Cond.selects (yX9_readsGoose).cls yX9_readsGoose yX9_readsGoose ∈ gz_TB := (gz_in 35 (by decide +kernel) rfl)
theorem kl_RX9_149 : gz_lk 1 RX9 149 mX9_readsGoose 0 := ⟨kd_X9_readsGoose, ki_X9_readsGoose, Or.inl (gz_in 1072 (by decide +kernel) rfl), by decide, ⟨by decide +kernel, by decide +kernel, by decide +kernel⟩, fun z => absurd z (by decide), fun _ => ks_X9_readsGoose, fun _ => kv_X9_readsGoose, fun z => absurd z (by decide)⟩
theorem kd_X9_faultOf : Cond.code yX9_faultOf cX9_faultOf 3 (some .int) ∈ gz_TB := (gz_in 1049 (by decide +kernel) rfl)
theorem ki_X9_faultOf : Cond.initialized (yX9_faultOf).cls ∈ gz_TB := (gz_in 88 (by decide +kernel) rfl)
theorem ks_X9_faultOf : Cond.instanceMethod yX9_faultOf ∈ gz_TB := (gz_in 1048 (by decide +kernel) rfl)
theorem kv_X9_faultOf : Cond.selects (yX9_faultOf).cls yX9_faultOf yX9_faultOf ∈ gz_TB := (gz_in 29 (by decide +kernel) rfl)
theorem kl_RX9_152 : gz_lk 1 RX9 152 mX9_faultOf 1 := ⟨kd_X9_faultOf, ki_X9_faultOf, Or.inl (gz_in 1046 (by decide +kernel) rfl), by decide, ⟨by decide +kernel, by decide +kernel, by decide +kernel⟩, fun z => absurd z (by decide), fun _ => ks_X9_faultOf, fun _ => kv_X9_faultOf, fun z => absurd z (by decide)⟩
theorem kd_X9_factOf : Cond.code yX9_factOf cX9_factOf 3 (some .int) ∈ gz_TB := (gz_in 1106 (by decide +kernel) rfl)
theorem ki_X9_factOf : Cond.initialized (yX9_factOf).cls ∈ gz_TB := (gz_in 88 (by decide +kernel) rfl)
theorem ks_X9_factOf : Cond.instanceMethod yX9_factOf ∈ gz_TB := (gz_in 1105 (by decide +kernel) rfl)
theorem kv_X9_factOf : Cond.selects (yX9_factOf).cls yX9_factOf yX9_factOf ∈ gz_TB := (gz_in 39 (by decide +kernel) rfl)
theorem kl_RX9_161 : gz_lk 1 RX9 161 mX9_factOf 2 := ⟨kd_X9_factOf, ki_X9_factOf, Or.inl (gz_in 1103 (by decide +kernel) rfl), by decide, ⟨by decide +kernel, by decide +kernel, by decide +kernel⟩, fun z => absurd z (by decide), fun _ => ks_X9_factOf, fun _ => kv_X9_factOf, fun z => absurd z (by decide)⟩
theorem kd_X9_layHeld : Cond.code yX9_layHeld cX9_layHeld 3 none ∈ gz_TB := (gz_in 1130 (by decide +kernel) rfl)
theorem ki_X9_layHeld : Cond.initialized (yX9_layHeld).cls ∈ gz_TB := (gz_in 88 (by decide +kernel) rfl)
theorem ks_X9_layHeld : Cond.instanceMethod yX9_layHeld ∈ gz_TB := (gz_in 1129 (by decide +kernel) rfl)
theorem kv_X9_layHeld : Cond.selects (yX9_layHeld).cls yX9_layHeld yX9_layHeld ∈ gz_TB := (gz_in 44 (by decide +kernel) rfl)
theorem kl_RX9_173 : gz_lk 1 RX9 173 mX9_layHeld 1 := ⟨kd_X9_layHeld, ki_X9_layHeld, Or.inl (gz_in 1127 (by decide +kernel) rfl), by decide, ⟨by decide +kernel, by decide +kernel, by decide +kernel⟩, fun z => absurd z (by decide), fun _ => ks_X9_layHeld, fun _ => kv_X9_layHeld, fun z => absurd z (by decide)⟩
theorem kd_X9_isGone : Cond.code yX9_isGone cX9_isGone 2 (some .boolean) ∈ gz_TB := (gz_in 1110 (by decide +kernel) rfl)
theorem ki_X9_isGone : Cond.initialized (yX9_isGone).cls ∈ gz_TB := (gz_in 88 (by decide +kernel) rfl)
theorem ks_X9_isGone : Cond.instanceMethod yX9_isGone ∈ gz_TB := (gz_in 1109 (by decide +kernel) rfl)
theorem kv_X9_isGone : Cond.selects (yX9_isGone).cls yX9_isGone yX9_isGone ∈ gz_TB := (gz_in 40 (by decide +kernel) rfl)
theorem kl_RX9_177 : gz_lk 1 RX9 177 mX9_isGone 1 := ⟨kd_X9_isGone, ki_X9_isGone, Or.inl (gz_in 1107 (by decide +kernel) rfl), by decide, ⟨by decide +kernel, by decide +kernel, by decide +kernel⟩, fun z => absurd z (by decide), fun _ => ks_X9_isGone, fun _ => kv_X9_isGone, fun z => absurd z (by decide)⟩
theorem kd_X9_tellsTried : Cond.code yX9_tellsTried cX9_tellsTried 8 (some .int) ∈ gz_TB := (gz_in 1134 (by decide +kernel) rfl)
theorem ki_X9_tellsTried : Cond.initialized (yX9_tellsTried).cls ∈ gz_TB := (gz_in 88 (by decide +kernel) rfl)
theorem ks_X9_tellsTried : Cond.instanceMethod yX9_tellsTried ∈ gz_TB := (gz_in 1133 (by decide +kernel) rfl)
theorem kv_X9_tellsTried : Cond.selects (yX9_tellsTried).cls yX9_tellsTried yX9_tellsTried ∈ gz_TB := (gz_in 45 (by decide +kernel) rfl)
theorem kl_RX9_180 : gz_lk 1 RX9 180 mX9_tellsTried 3 := ⟨kd_X9_tellsTried, ki_X9_tellsTried, Or.inl (gz_in 1131 (by decide +kernel) rfl), by decide, ⟨by decide +kernel, by decide +kernel, by decide +kernel⟩, fun z => absurd z (by decide), fun _ => ks_X9_tellsTried, fun _ => kv_X9_tellsTried, fun z => absurd z (by decide)⟩
theorem kd_X9_tellsAt : Cond.code yX9_tellsAt cX9_tellsAt 3 (some .int) ∈ gz_TB := (gz_in 1126 (by decide +kernel) rfl)
theorem ki_X9_tellsAt : Cond.initialized (yX9_tellsAt).cls ∈ gz_TB := (gz_in 88 (by decide +kernel) rfl)
theorem ks_X9_tellsAt : Cond.instanceMethod yX9_tellsAt ∈ gz_TB := (gz_in 1125 (by decide +kernel) rfl)
theorem kv_X9_tellsAt : Cond.selects (yX9_tellsAt).cls yX9_tellsAt yX9_tellsAt ∈ gz_TB := (gz_in 43 (by decide +kernel) rfl)
theorem kl_RX9_184 : gz_lk 1 RX9 184 mX9_tellsAt 2 := ⟨kd_X9_tellsAt, ki_X9_tellsAt, Or.inl (gz_in 1123 (by decide +kernel) rfl), by decide, ⟨by decide +kernel, by decide +kernel, by decide +kernel⟩, fun z => absurd z (by decide), fun _ => ks_X9_tellsAt, fun _ => kv_X9_tellsAt, fun z => absurd z (by decide)⟩
theorem kd_X9_heldBy : Cond.code yX9_heldBy cX9_heldBy 4 (some .int) ∈ gz_TB := (gz_in 1102 (by decide +kernel) rfl)
theorem ki_X9_heldBy : Cond.initialized (yX9_heldBy).cls ∈ gz_TB := (gz_in 88 (by decide +kernel) rfl)
theorem ks_X9_heldBy : Cond.instanceMethod yX9_heldBy ∈ gz_TB := (gz_in 1101 (by decide +kernel) rfl)
theorem kv_X9_heldBy : Cond.selects (yX9_heldBy).cls yX9_heldBy yX9_heldBy ∈ gz_TB := (gz_in 38 (by decide +kernel) rfl)
theorem kl_RX9_187 : gz_lk 1 RX9 187 mX9_heldBy 1 := ⟨kd_X9_heldBy, ki_X9_heldBy, Or.inl (gz_in 1099 (by decide +kernel) rfl), by decide, ⟨by decide +kernel, by decide +kernel, by decide +kernel⟩, fun z => absurd z (by decide), fun _ => ks_X9_heldBy, fun _ => kv_X9_heldBy, fun z => absurd z (by decide)⟩
theorem kd_X9_heldByAll : Cond.code yX9_heldByAll cX9_heldByAll 3 (some .int) ∈ gz_TB := (gz_in 1207 (by decide +kernel) rfl)
theorem ki_X9_heldByAll : Cond.initialized (yX9_heldByAll).cls ∈ gz_TB := (gz_in 88 (by decide +kernel) rfl)
theorem ks_X9_heldByAll : Cond.instanceMethod yX9_heldByAll ∈ gz_TB := (gz_in 1206 (by decide +kernel) rfl)
theorem kv_X9_heldByAll : Cond.selects (yX9_heldByAll).cls yX9_heldByAll yX9_heldByAll ∈ gz_TB := (gz_in 56 (by decide +kernel) rfl)
theorem kl_RX9_190 : gz_lk 1 RX9 190 mX9_heldByAll 0 := ⟨kd_X9_heldByAll, ki_X9_heldByAll, Or.inl (gz_in 1204 (by decide +kernel) rfl), by decide, ⟨by decide +kernel, by decide +kernel, by decide +kernel⟩, fun z => absurd z (by decide), fun _ => ks_X9_heldByAll, fun _ => kv_X9_heldByAll, fun z => absurd z (by decide)⟩
theorem kd_X9_isGoose : Cond.code yX9_isGoose cX9_isGoose 2 (some .boolean) ∈ gz_TB := (gz_in 1093 (by decide +kernel) rfl)
theorem ki_X9_isGoose : Cond.initialized (yX9_isGoose).cls ∈ gz_TB := (gz_in 88 (by decide +kernel) rfl)
theorem ks_X9_isGoose : Cond.instanceMethod yX9_isGoose ∈ gz_TB := (gz_in 1092 (by decide +kernel) rfl)
theorem kv_X9_isGoose : Cond.selects (yX9_isGoose).cls yX9_isGoose yX9_isGoose ∈ gz_TB := (gz_in 36 (by decide +kernel) rfl)
theorem kl_RX9_196 : gz_lk 1 RX9 196 mX9_isGoose 1 := ⟨kd_X9_isGoose, ki_X9_isGoose, Or.inl (gz_in 1090 (by decide +kernel) rfl), by decide, ⟨by decide +kernel, by decide +kernel, by decide +kernel⟩, fun z => absurd z (by decide), fun _ => ks_X9_isGoose, fun _ => kv_X9_isGoose, fun z => absurd z (by decide)⟩
theorem kd_X9_toldOf : Cond.code yX9_toldOf cX9_toldOf 4 (some .int) ∈ gz_TB := (gz_in 1098 (by decide +kernel) rfl)
theorem ki_X9_toldOf : Cond.initialized (yX9_toldOf).cls ∈ gz_TB := (gz_in 88 (by decide +kernel) rfl)
theorem ks_X9_toldOf : Cond.instanceMethod yX9_toldOf ∈ gz_TB := (gz_in 1097 (by decide +kernel) rfl)
theorem kv_X9_toldOf : Cond.selects (yX9_toldOf).cls yX9_toldOf yX9_toldOf ∈ gz_TB := (gz_in 37 (by decide +kernel) rfl)
theorem kl_RX9_201 : gz_lk 1 RX9 201 mX9_toldOf 2 := ⟨kd_X9_toldOf, ki_X9_toldOf, Or.inl (gz_in 1095 (by decide +kernel) rfl), by decide, ⟨by decide +kernel, by decide +kernel, by decide +kernel⟩, fun z => absurd z (by decide), fun _ => ks_X9_toldOf, fun _ => kv_X9_toldOf, fun z => absurd z (by decide)⟩
theorem kd_X9_isOf : Cond.code yX9_isOf cX9_isOf 3 (some .boolean) ∈ gz_TB := (gz_in 1118 (by decide +kernel) rfl)
theorem ki_X9_isOf : Cond.initialized (yX9_isOf).cls ∈ gz_TB := (gz_in 88 (by decide +kernel) rfl)
theorem ks_X9_isOf : Cond.instanceMethod yX9_isOf ∈ gz_TB := (gz_in 1117 (by decide +kernel) rfl)
theorem kv_X9_isOf : Cond.selects (yX9_isOf).cls yX9_isOf yX9_isOf ∈ gz_TB := (gz_in 41 (by decide +kernel) rfl)
theorem kl_RX9_204 : gz_lk 1 RX9 204 mX9_isOf 2 := ⟨kd_X9_isOf, ki_X9_isOf, Or.inl (gz_in 1115 (by decide +kernel) rfl), by decide, ⟨by decide +kernel, by decide +kernel, by decide +kernel⟩, fun z => absurd z (by decide), fun _ => ks_X9_isOf, fun _ => kv_X9_isOf, fun z => absurd z (by decide)⟩
theorem kd_X9_tellingPlaces : Cond.code yX9_tellingPlaces cX9_tellingPlaces 4 (some .int) ∈ gz_TB := (gz_in 1122 (by decide +kernel) rfl)
theorem ki_X9_tellingPlaces : Cond.initialized (yX9_tellingPlaces).cls ∈ gz_TB := (gz_in 88 (by decide +kernel) rfl)
theorem ks_X9_tellingPlaces : Cond.instanceMethod yX9_tellingPlaces ∈ gz_TB := (gz_in 1121 (by decide +kernel) rfl)
theorem kv_X9_tellingPlaces : Cond.selects (yX9_tellingPlaces).cls yX9_tellingPlaces yX9_tellingPlaces ∈ gz_TB := (gz_in 42 (by decide +kernel) rfl)
theorem kl_RX9_207 : gz_lk 1 RX9 207 mX9_tellingPlaces 1 := ⟨kd_X9_tellingPlaces, ki_X9_tellingPlaces, Or.inl (gz_in 1119 (by decide +kernel) rfl), by decide, ⟨by decide +kernel, by decide +kernel, by decide +kernel⟩, fun z => absurd z (by decide), fun _ => ks_X9_tellingPlaces, fun _ => kv_X9_tellingPlaces, fun z => absurd z (by decide)⟩
theorem kd_X9_toldTwice : Cond.code yX9_toldTwice cX9_toldTwice 6 (some .int) ∈ gz_TB := (gz_in 1144 (by decide +kernel) rfl)
theorem ki_X9_toldTwice : Cond.initialized (yX9_toldTwice).cls ∈ gz_TB := (gz_in 88 (by decide +kernel) rfl)
theorem ks_X9_toldTwice : Cond.instanceMethod yX9_toldTwice ∈ gz_TB := (gz_in 1143 (by decide +kernel) rfl)
theorem kv_X9_toldTwice : Cond.selects (yX9_toldTwice).cls yX9_toldTwice yX9_toldTwice ∈ gz_TB := (gz_in 46 (by decide +kernel) rfl)
theorem kl_RX9_210 : gz_lk 1 RX9 210 mX9_toldTwice 1 := ⟨kd_X9_toldTwice, ki_X9_toldTwice, Or.inl (gz_in 1141 (by decide +kernel) rfl), by decide, ⟨by decide +kernel, by decide +kernel, by decide +kernel⟩, fun z => absurd z (by decide), fun _ => ks_X9_toldTwice, fun _ => kv_X9_toldTwice, fun z => absurd z (by decide)⟩
theorem kd_X9_toldBy : Cond.code yX9_toldBy cX9_toldBy 4 (some .int) ∈ gz_TB := (gz_in 1151 (by decide +kernel) rfl)
theorem ki_X9_toldBy : Cond.initialized (yX9_toldBy).cls ∈ gz_TB := (gz_in 88 (by decide +kernel) rfl)
theorem ks_X9_toldBy : Cond.instanceMethod yX9_toldBy ∈ gz_TB := (gz_in 1150 (by decide +kernel) rfl)
theorem kv_X9_toldBy : Cond.selects (yX9_toldBy).cls yX9_toldBy yX9_toldBy ∈ gz_TB := (gz_in 47 (by decide +kernel) rfl)
theorem kl_RX9_213 : gz_lk 1 RX9 213 mX9_toldBy 1 := ⟨kd_X9_toldBy, ki_X9_toldBy, Or.inl (gz_in 1148 (by decide +kernel) rfl), by decide, ⟨by decide +kernel, by decide +kernel, by decide +kernel⟩, fun z => absurd z (by decide), fun _ => ks_X9_toldBy, fun _ => kv_X9_toldBy, fun z => absurd z (by decide)⟩
theorem kd_X9_alone : Cond.code yX9_alone cX9_alone 4 (some .int) ∈ gz_TB := (gz_in 1155 (by decide +kernel) rfl)
theorem ki_X9_alone : Cond.initialized (yX9_alone).cls ∈ gz_TB := (gz_in 88 (by decide +kernel) rfl)
theorem ks_X9_alone : Cond.instanceMethod yX9_alone ∈ gz_TB := (gz_in 1154 (by decide +kernel) rfl)
theorem kv_X9_alone : Cond.selects (yX9_alone).cls yX9_alone yX9_alone ∈ gz_TB := (gz_in 48 (by decide +kernel) rfl)
theorem kl_RX9_216 : gz_lk 1 RX9 216 mX9_alone 1 := ⟨kd_X9_alone, ki_X9_alone, Or.inl (gz_in 1152 (by decide +kernel) rfl), by decide, ⟨by decide +kernel, by decide +kernel, by decide +kernel⟩, fun z => absurd z (by decide), fun _ => ks_X9_alone, fun _ => kv_X9_alone, fun z => absurd z (by decide)⟩
theorem kd_X9_isFact : Cond.code yX9_isFact cX9_isFact 2 (some .boolean) ∈ gz_TB := (gz_in 1163 (by decide +kernel) rfl)
theorem ki_X9_isFact : Cond.initialized (yX9_isFact).cls ∈ gz_TB := (gz_in 88 (by decide +kernel) rfl)
theorem ks_X9_isFact : Cond.instanceMethod yX9_isFact ∈ gz_TB := (gz_in 1162 (by decide +kernel) rfl)
theorem kv_X9_isFact : Cond.selects (yX9_isFact).cls yX9_isFact yX9_isFact ∈ gz_TB := (gz_in 49 (by decide +kernel) rfl)
theorem kl_RX9_219 : gz_lk 1 RX9 219 mX9_isFact 1 := ⟨kd_X9_isFact, ki_X9_isFact, Or.inl (gz_in 1160 (by decide +kernel) rfl), by decide, ⟨by decide +kernel, by decide +kernel, by decide +kernel⟩, fun z => absurd z (by decide), fun _ => ks_X9_isFact, fun _ => kv_X9_isFact, fun z => absurd z (by decide)⟩
theorem kd_X9_drop : Cond.code yX9_drop cX9_drop 4 none ∈ gz_TB := (gz_in 1183 (by decide +kernel) rfl)
theorem ki_X9_drop : Cond.initialized (yX9_drop).cls ∈ gz_TB := (gz_in 88 (by decide +kernel) rfl)
theorem ks_X9_drop : Cond.instanceMethod yX9_drop ∈ gz_TB := (gz_in 1182 (by decide +kernel) rfl)
theorem kv_X9_drop : Cond.selects (yX9_drop).cls yX9_drop yX9_drop ∈ gz_TB := (gz_in 53 (by decide +kernel) rfl)
theorem kl_RX9_222 : gz_lk 1 RX9 222 mX9_drop 2 := ⟨kd_X9_drop, ki_X9_drop, Or.inl (gz_in 1180 (by decide +kernel) rfl), by decide, ⟨by decide +kernel, by decide +kernel, by decide +kernel⟩, fun z => absurd z (by decide), fun _ => ks_X9_drop, fun _ => kv_X9_drop, fun z => absurd z (by decide)⟩
theorem kd_X9_no : Cond.code yX9_no cX9_no 3 (some .int) ∈ gz_TB := (gz_in 1171 (by decide +kernel) rfl)
theorem ki_X9_no : Cond.initialized (yX9_no).cls ∈ gz_TB := (gz_in 88 (by decide +kernel) rfl)
theorem ks_X9_no : Cond.instanceMethod yX9_no ∈ gz_TB := (gz_in 1170 (by decide +kernel) rfl)
theorem kv_X9_no : Cond.selects (yX9_no).cls yX9_no yX9_no ∈ gz_TB := (gz_in 50 (by decide +kernel) rfl)
theorem kl_RX9_225 : gz_lk 1 RX9 225 mX9_no 2 := ⟨kd_X9_no, ki_X9_no, Or.inl (gz_in 1168 (by decide +kernel) rfl), by decide, ⟨by decide +kernel, by decide +kernel, by decide +kernel⟩, fun z => absurd z (by decide), fun _ => ks_X9_no, fun _ => kv_X9_no, fun z => absurd z (by decide)⟩
theorem kd_X9_keepPast : Cond.code yX9_keepPast cX9_keepPast 2 none ∈ gz_TB := (gz_in 1175 (by decide +kernel) rfl)
theorem ki_X9_keepPast : Cond.initialized (yX9_keepPast).cls ∈ gz_TB := (gz_in 88 (by decide +kernel) rfl)
theorem ks_X9_keepPast : Cond.instanceMethod yX9_keepPast ∈ gz_TB := (gz_in 1174 (by decide +kernel) rfl)
theorem kv_X9_keepPast : Cond.selects (yX9_keepPast).cls yX9_keepPast yX9_keepPast ∈ gz_TB := (gz_in 51 (by decide +kernel) rfl)
theorem kl_RX9_228 : gz_lk 1 RX9 228 mX9_keepPast 0 := ⟨kd_X9_keepPast, ki_X9_keepPast, Or.inl (gz_in 1172 (by decide +kernel) rfl), by decide, ⟨by decide +kernel, by decide +kernel, by decide +kernel⟩, fun z => absurd z (by decide), fun _ => ks_X9_keepPast, fun _ => kv_X9_keepPast, fun z => absurd z (by decide)⟩
theorem kd_X9_doGive : Cond.code yX9_doGive cX9_doGive 6 (some .int) ∈ gz_TB := (gz_in 1179 (by decide +kernel) rfl)
theorem ki_X9_doGive : Cond.initialized (yX9_doGive).cls ∈ gz_TB := (gz_in 88 (by decide +kernel) rfl)
theorem ks_X9_doGive : Cond.instanceMethod yX9_doGive ∈ gz_TB := (gz_in 1178 (by decide +kernel) rfl)
theorem kv_X9_doGive : Cond.selects (yX9_doGive).cls yX9_doGive yX9_doGive ∈ gz_TB := (gz_in 52 (by decide +kernel) rfl)
theorem kl_RX9_231 : gz_lk 1 RX9 231 mX9_doGive 2 := ⟨kd_X9_doGive, ki_X9_doGive, Or.inl (gz_in 1176 (by decide +kernel) rfl), by decide, ⟨by decide +kernel, by decide +kernel, by decide +kernel⟩, fun z => absurd z (by decide), fun _ => ks_X9_doGive, fun _ => kv_X9_doGive, fun z => absurd z (by decide)⟩
theorem kd_X9_doFright : Cond.code yX9_doFright cX9_doFright 3 (some .int) ∈ gz_TB := (gz_in 1191 (by decide +kernel) rfl)
theorem ki_X9_doFright : Cond.initialized (yX9_doFright).cls ∈ gz_TB := (gz_in 88 (by decide +kernel) rfl)
theorem ks_X9_doFright : Cond.instanceMethod yX9_doFright ∈ gz_TB := (gz_in 1190 (by decide +kernel) rfl)
theorem kv_X9_doFright : Cond.selects (yX9_doFright).cls yX9_doFright yX9_doFright ∈ gz_TB := (gz_in 54 (by decide +kernel) rfl)
theorem kl_RX9_234 : gz_lk 1 RX9 234 mX9_doFright 1 := ⟨kd_X9_doFright, ki_X9_doFright, Or.inl (gz_in 1188 (by decide +kernel) rfl), by decide, ⟨by decide +kernel, by decide +kernel, by decide +kernel⟩, fun z => absurd z (by decide), fun _ => ks_X9_doFright, fun _ => kv_X9_doFright, fun z => absurd z (by decide)⟩
theorem kd_X9_lostMany : Cond.code yX9_lostMany cX9_lostMany 1 (some .int) ∈ gz_TB := (gz_in 1203 (by decide +kernel) rfl)
theorem ki_X9_lostMany : Cond.initialized (yX9_lostMany).cls ∈ gz_TB := (gz_in 88 (by decide +kernel) rfl)
theorem ks_X9_lostMany : Cond.instanceMethod yX9_lostMany ∈ gz_TB := (gz_in 1202 (by decide +kernel) rfl)
theorem kv_X9_lostMany : Cond.selects (yX9_lostMany).cls yX9_lostMany yX9_lostMany ∈ gz_TB := (gz_in 55 (by decide +kernel) rfl)
theorem kl_RX9_237 : gz_lk 1 RX9 237 mX9_lostMany 0 := ⟨kd_X9_lostMany, ki_X9_lostMany, Or.inl (gz_in 1200 (by decide +kernel) rfl), by decide, ⟨by decide +kernel, by decide +kernel, by decide +kernel⟩, fun z => absurd z (by decide), fun _ => ks_X9_lostMany, fun _ => kv_X9_lostMany, fun z => absurd z (by decide)⟩
theorem kd_X9_copyFlock : Cond.code yX9_copyFlock cX9_copyFlock 4 none ∈ gz_TB := (gz_in 1220 (by decide +kernel) rfl)
theorem ki_X9_copyFlock : Cond.initialized (yX9_copyFlock).cls ∈ gz_TB := (gz_in 88 (by decide +kernel) rfl)
theorem ks_X9_copyFlock : Cond.instanceMethod yX9_copyFlock ∈ gz_TB := (gz_in 1219 (by decide +kernel) rfl)
theorem kv_X9_copyFlock : Cond.selects (yX9_copyFlock).cls yX9_copyFlock yX9_copyFlock ∈ gz_TB := (gz_in 57 (by decide +kernel) rfl)
theorem kl_RX9_242 : gz_lk 1 RX9 242 mX9_copyFlock 2 := ⟨kd_X9_copyFlock, ki_X9_copyFlock, Or.inl (gz_in 1217 (by decide +kernel) rfl), by decide, ⟨by decide +kernel, by decide +kernel, by decide +kernel⟩, fun z => absurd z (by decide), fun _ => ks_X9_copyFlock, fun _ => kv_X9_copyFlock, fun z => absurd z (by decide)⟩
theorem kd_X9_toldByAll : Cond.code yX9_toldByAll cX9_toldByAll 4 (some .int) ∈ gz_TB := (gz_in 1239 (by decide +kernel) rfl)
theorem ki_X9_toldByAll : Cond.initialized (yX9_toldByAll).cls ∈ gz_TB := (gz_in 88 (by decide +kernel) rfl)
theorem ks_X9_toldByAll : Cond.instanceMethod yX9_toldByAll ∈ gz_TB := (gz_in 1238 (by decide +kernel) rfl)
theorem kv_X9_toldByAll : Cond.selects (yX9_toldByAll).cls yX9_toldByAll yX9_toldByAll ∈ gz_TB := (gz_in 58 (by decide +kernel) rfl)
theorem kl_RX9_248 : gz_lk 1 RX9 248 mX9_toldByAll 1 := ⟨kd_X9_toldByAll, ki_X9_toldByAll, Or.inl (gz_in 1236 (by decide +kernel) rfl), by decide, ⟨by decide +kernel, by decide +kernel, by decide +kernel⟩, fun z => absurd z (by decide), fun _ => ks_X9_toldByAll, fun _ => kv_X9_toldByAll, fun z => absurd z (by decide)⟩
theorem kd_X9_allFacts : Cond.code yX9_allFacts cX9_allFacts 1 (some .int) ∈ gz_TB := (gz_in 1251 (by decide +kernel) rfl)
theorem ki_X9_allFacts : Cond.initialized (yX9_allFacts).cls ∈ gz_TB := (gz_in 88 (by decide +kernel) rfl)
theorem ks_X9_allFacts : Cond.instanceMethod yX9_allFacts ∈ gz_TB := (gz_in 1250 (by decide +kernel) rfl)
theorem kv_X9_allFacts : Cond.selects (yX9_allFacts).cls yX9_allFacts yX9_allFacts ∈ gz_TB := (gz_in 59 (by decide +kernel) rfl)
theorem kl_RX9_251 : gz_lk 1 RX9 251 mX9_allFacts 0 := ⟨kd_X9_allFacts, ki_X9_allFacts, Or.inl (gz_in 1248 (by decide +kernel) rfl), by decide, ⟨by decide +kernel, by decide +kernel, by decide +kernel⟩, fun z => absurd z (by decide), fun _ => ks_X9_allFacts, fun _ => kv_X9_allFacts, fun z => absurd z (by decide)⟩
theorem kd_X9_firstOf : Cond.code yX9_firstOf cX9_firstOf 3 (some .int) ∈ gz_TB := (gz_in 1255 (by decide +kernel) rfl)
theorem ki_X9_firstOf : Cond.initialized (yX9_firstOf).cls ∈ gz_TB := (gz_in 88 (by decide +kernel) rfl)
theorem ks_X9_firstOf : Cond.instanceMethod yX9_firstOf ∈ gz_TB := (gz_in 1254 (by decide +kernel) rfl)
theorem kv_X9_firstOf : Cond.selects (yX9_firstOf).cls yX9_firstOf yX9_firstOf ∈ gz_TB := (gz_in 60 (by decide +kernel) rfl)
theorem kl_RX9_254 : gz_lk 1 RX9 254 mX9_firstOf 1 := ⟨kd_X9_firstOf, ki_X9_firstOf, Or.inl (gz_in 1252 (by decide +kernel) rfl), by decide, ⟨by decide +kernel, by decide +kernel, by decide +kernel⟩, fun z => absurd z (by decide), fun _ => ks_X9_firstOf, fun _ => kv_X9_firstOf, fun z => absurd z (by decide)⟩
theorem kd_X9_isSet : Cond.code yX9_isSet cX9_isSet 2 (some .boolean) ∈ gz_TB := (gz_in 1267 (by decide +kernel) rfl)
theorem ki_X9_isSet : Cond.initialized (yX9_isSet).cls ∈ gz_TB := (gz_in 88 (by decide +kernel) rfl)
theorem ks_X9_isSet : Cond.instanceMethod yX9_isSet ∈ gz_TB := (gz_in 1266 (by decide +kernel) rfl)
theorem kv_X9_isSet : Cond.selects (yX9_isSet).cls yX9_isSet yX9_isSet ∈ gz_TB := (gz_in 61 (by decide +kernel) rfl)
theorem kl_RX9_257 : gz_lk 1 RX9 257 mX9_isSet 1 := ⟨kd_X9_isSet, ki_X9_isSet, Or.inl (gz_in 1264 (by decide +kernel) rfl), by decide, ⟨by decide +kernel, by decide +kernel, by decide +kernel⟩, fun z => absurd z (by decide), fun _ => ks_X9_isSet, fun _ => kv_X9_isSet, fun z => absurd z (by decide)⟩
theorem kd_X9_laySays : Cond.code yX9_laySays cX9_laySays 3 none ∈ gz_TB := (gz_in 1271 (by decide +kernel) rfl)
theorem ki_X9_laySays : Cond.initialized (yX9_laySays).cls ∈ gz_TB := (gz_in 88 (by decide +kernel) rfl)
theorem ks_X9_laySays : Cond.instanceMethod yX9_laySays ∈ gz_TB := (gz_in 1270 (by decide +kernel) rfl)
theorem kv_X9_laySays : Cond.selects (yX9_laySays).cls yX9_laySays yX9_laySays ∈ gz_TB := (gz_in 62 (by decide +kernel) rfl)
theorem kl_RX9_260 : gz_lk 1 RX9 260 mX9_laySays 0 := ⟨kd_X9_laySays, ki_X9_laySays, Or.inl (gz_in 1268 (by decide +kernel) rfl), by decide, ⟨by decide +kernel, by decide +kernel, by decide +kernel⟩, fun z => absurd z (by decide), fun _ => ks_X9_laySays, fun _ => kv_X9_laySays, fun z => absurd z (by decide)⟩
theorem kd_X9_saidBy : Cond.code yX9_saidBy cX9_saidBy 5 (some .int) ∈ gz_TB := (gz_in 1275 (by decide +kernel) rfl)
theorem ki_X9_saidBy : Cond.initialized (yX9_saidBy).cls ∈ gz_TB := (gz_in 88 (by decide +kernel) rfl)
theorem ks_X9_saidBy : Cond.instanceMethod yX9_saidBy ∈ gz_TB := (gz_in 1274 (by decide +kernel) rfl)
theorem kv_X9_saidBy : Cond.selects (yX9_saidBy).cls yX9_saidBy yX9_saidBy ∈ gz_TB := (gz_in 63 (by decide +kernel) rfl)
theorem kl_RX9_263 : gz_lk 1 RX9 263 mX9_saidBy 2 := ⟨kd_X9_saidBy, ki_X9_saidBy, Or.inl (gz_in 1272 (by decide +kernel) rfl), by decide, ⟨by decide +kernel, by decide +kernel, by decide +kernel⟩, fun z => absurd z (by decide), fun _ => ks_X9_saidBy, fun _ => kv_X9_saidBy, fun z => absurd z (by decide)⟩
theorem kd_X9_holdersOf : Cond.code yX9_holdersOf cX9_holdersOf 4 (some .int) ∈ gz_TB := (gz_in 1302 (by decide +kernel) rfl)
theorem ki_X9_holdersOf : Cond.initialized (yX9_holdersOf).cls ∈ gz_TB := (gz_in 88 (by decide +kernel) rfl)
theorem ks_X9_holdersOf : Cond.instanceMethod yX9_holdersOf ∈ gz_TB := (gz_in 1301 (by decide +kernel) rfl)
theorem kv_X9_holdersOf : Cond.selects (yX9_holdersOf).cls yX9_holdersOf yX9_holdersOf ∈ gz_TB := (gz_in 65 (by decide +kernel) rfl)
theorem kl_RX9_269 : gz_lk 1 RX9 269 mX9_holdersOf 1 := ⟨kd_X9_holdersOf, ki_X9_holdersOf, Or.inl (gz_in 1299 (by decide +kernel) rfl), by decide, ⟨by decide +kernel, by decide +kernel, by decide +kernel⟩, fun z => absurd z (by decide), fun _ => ks_X9_holdersOf, fun _ => kv_X9_holdersOf, fun z => absurd z (by decide)⟩
theorem kd_X9_missing : Cond.code yX9_missing cX9_missing 5 (some .int) ∈ gz_TB := (gz_in 1298 (by decide +kernel) rfl)
theorem ki_X9_missing : Cond.initialized (yX9_missing).cls ∈ gz_TB := (gz_in 88 (by decide +kernel) rfl)
theorem ks_X9_missing : Cond.instanceMethod yX9_missing ∈ gz_TB := (gz_in 1297 (by decide +kernel) rfl)
theorem kv_X9_missing : Cond.selects (yX9_missing).cls yX9_missing yX9_missing ∈ gz_TB := (gz_in 64 (by decide +kernel) rfl)
theorem kl_RX9_272 : gz_lk 1 RX9 272 mX9_missing 1 := ⟨kd_X9_missing, ki_X9_missing, Or.inl (gz_in 1295 (by decide +kernel) rfl), by decide, ⟨by decide +kernel, by decide +kernel, by decide +kernel⟩, fun z => absurd z (by decide), fun _ => ks_X9_missing, fun _ => kv_X9_missing, fun z => absurd z (by decide)⟩
theorem kd_X9_room : Cond.code yX9_room cX9_room 6 (some .int) ∈ gz_TB := (gz_in 1306 (by decide +kernel) rfl)
theorem ki_X9_room : Cond.initialized (yX9_room).cls ∈ gz_TB := (gz_in 88 (by decide +kernel) rfl)
theorem ks_X9_room : Cond.instanceMethod yX9_room ∈ gz_TB := (gz_in 1305 (by decide +kernel) rfl)
theorem kv_X9_room : Cond.selects (yX9_room).cls yX9_room yX9_room ∈ gz_TB := (gz_in 66 (by decide +kernel) rfl)
theorem kl_RX9_275 : gz_lk 1 RX9 275 mX9_room 1 := ⟨kd_X9_room, ki_X9_room, Or.inl (gz_in 1303 (by decide +kernel) rfl), by decide, ⟨by decide +kernel, by decide +kernel, by decide +kernel⟩, fun z => absurd z (by decide), fun _ => ks_X9_room, fun _ => kv_X9_room, fun z => absurd z (by decide)⟩
theorem kd_X9_tellParts : Cond.code yX9_tellParts cX9_tellParts 11 (some .int) ∈ gz_TB := (gz_in 1315 (by decide +kernel) rfl)
theorem ki_X9_tellParts : Cond.initialized (yX9_tellParts).cls ∈ gz_TB := (gz_in 88 (by decide +kernel) rfl)
theorem ks_X9_tellParts : Cond.instanceMethod yX9_tellParts ∈ gz_TB := (gz_in 1314 (by decide +kernel) rfl)
theorem kv_X9_tellParts : Cond.selects (yX9_tellParts).cls yX9_tellParts yX9_tellParts ∈ gz_TB := (gz_in 67 (by decide +kernel) rfl)
theorem kl_RX9_283 : gz_lk 1 RX9 283 mX9_tellParts 2 := ⟨kd_X9_tellParts, ki_X9_tellParts, Or.inl (gz_in 1312 (by decide +kernel) rfl), by decide, ⟨by decide +kernel, by decide +kernel, by decide +kernel⟩, fun z => absurd z (by decide), fun _ => ks_X9_tellParts, fun _ => kv_X9_tellParts, fun z => absurd z (by decide)⟩
theorem kd_X9_noPairs : Cond.code yX9_noPairs cX9_noPairs 4 (some .int) ∈ gz_TB := (gz_in 1323 (by decide +kernel) rfl)
theorem ki_X9_noPairs : Cond.initialized (yX9_noPairs).cls ∈ gz_TB := (gz_in 88 (by decide +kernel) rfl)
theorem ks_X9_noPairs : Cond.instanceMethod yX9_noPairs ∈ gz_TB := (gz_in 1322 (by decide +kernel) rfl)
theorem kv_X9_noPairs : Cond.selects (yX9_noPairs).cls yX9_noPairs yX9_noPairs ∈ gz_TB := (gz_in 68 (by decide +kernel) rfl)
theorem kl_RX9_287 : gz_lk 1 RX9 287 mX9_noPairs 1 := ⟨kd_X9_noPairs, ki_X9_noPairs, Or.inl (gz_in 1320 (by decide +kernel) rfl), by decide, ⟨by decide +kernel, by decide +kernel, by decide +kernel⟩, fun z => absurd z (by decide), fun _ => ks_X9_noPairs, fun _ => kv_X9_noPairs, fun z => absurd z (by decide)⟩
theorem kd_X9_areUnlike : Cond.code yX9_areUnlike cX9_areUnlike 3 (some .boolean) ∈ gz_TB := (gz_in 1327 (by decide +kernel) rfl)
theorem ki_X9_areUnlike : Cond.initialized (yX9_areUnlike).cls ∈ gz_TB := (gz_in 88 (by decide +kernel) rfl)
theorem ks_X9_areUnlike : Cond.instanceMethod yX9_areUnlike ∈ gz_TB := (gz_in 1326 (by decide +kernel) rfl)
theorem kv_X9_areUnlike : Cond.selects (yX9_areUnlike).cls yX9_areUnlike yX9_areUnlike ∈ gz_TB := (gz_in 69 (by decide +kernel) rfl)
theorem kl_RX9_290 : gz_lk 1 RX9 290 mX9_areUnlike 0 := ⟨kd_X9_areUnlike, ki_X9_areUnlike, Or.inl (gz_in 1324 (by decide +kernel) rfl), by decide, ⟨by decide +kernel, by decide +kernel, by decide +kernel⟩, fun z => absurd z (by decide), fun _ => ks_X9_areUnlike, fun _ => kv_X9_areUnlike, fun z => absurd z (by decide)⟩
theorem kd_X9_isSo : Cond.code yX9_isSo cX9_isSo 6 (some .boolean) ∈ gz_TB := (gz_in 1331 (by decide +kernel) rfl)
theorem ki_X9_isSo : Cond.initialized (yX9_isSo).cls ∈ gz_TB := (gz_in 88 (by decide +kernel) rfl)
theorem ks_X9_isSo : Cond.instanceMethod yX9_isSo ∈ gz_TB := (gz_in 1330 (by decide +kernel) rfl)
theorem kv_X9_isSo : Cond.selects (yX9_isSo).cls yX9_isSo yX9_isSo ∈ gz_TB := (gz_in 70 (by decide +kernel) rfl)
theorem kl_RX9_293 : gz_lk 1 RX9 293 mX9_isSo 3 := ⟨kd_X9_isSo, ki_X9_isSo, Or.inl (gz_in 1328 (by decide +kernel) rfl), by decide, ⟨by decide +kernel, by decide +kernel, by decide +kernel⟩, fun z => absurd z (by decide), fun _ => ks_X9_isSo, fun _ => kv_X9_isSo, fun z => absurd z (by decide)⟩
theorem kd_X9_nextTried : Cond.code yX9_nextTried cX9_nextTried 2 (some .boolean) ∈ gz_TB := (gz_in 1335 (by decide +kernel) rfl)
theorem ki_X9_nextTried : Cond.initialized (yX9_nextTried).cls ∈ gz_TB := (gz_in 88 (by decide +kernel) rfl)
theorem ks_X9_nextTried : Cond.instanceMethod yX9_nextTried ∈ gz_TB := (gz_in 1334 (by decide +kernel) rfl)
theorem kv_X9_nextTried : Cond.selects (yX9_nextTried).cls yX9_nextTried yX9_nextTried ∈ gz_TB := (gz_in 71 (by decide +kernel) rfl)
theorem kl_RX9_296 : gz_lk 1 RX9 296 mX9_nextTried 0 := ⟨kd_X9_nextTried, ki_X9_nextTried, Or.inl (gz_in 1332 (by decide +kernel) rfl), by decide, ⟨by decide +kernel, by decide +kernel, by decide +kernel⟩, fun z => absurd z (by decide), fun _ => ks_X9_nextTried, fun _ => kv_X9_nextTried, fun z => absurd z (by decide)⟩
theorem kd_X9_heldBySome : Cond.code yX9_heldBySome cX9_heldBySome 4 (some .int) ∈ gz_TB := (gz_in 1348 (by decide +kernel) rfl)
theorem ki_X9_heldBySome : Cond.initialized (yX9_heldBySome).cls ∈ gz_TB := (gz_in 88 (by decide +kernel) rfl)
theorem ks_X9_heldBySome : Cond.instanceMethod yX9_heldBySome ∈ gz_TB := (gz_in 1347 (by decide +kernel) rfl)
theorem kv_X9_heldBySome : Cond.selects (yX9_heldBySome).cls yX9_heldBySome yX9_heldBySome ∈ gz_TB := (gz_in 72 (by decide +kernel) rfl)
theorem kl_RX9_301 : gz_lk 1 RX9 301 mX9_heldBySome 1 := ⟨kd_X9_heldBySome, ki_X9_heldBySome, Or.inl (gz_in 1345 (by decide +kernel) rfl), by decide, ⟨by decide +kernel, by decide +kernel, by decide +kernel⟩, fun z => absurd z (by decide), fun _ => ks_X9_heldBySome, fun _ => kv_X9_heldBySome, fun z => absurd z (by decide)⟩
theorem kd_X9_waysOf : Cond.code yX9_waysOf cX9_waysOf 6 (some .long) ∈ gz_TB := (gz_in 1352 (by decide +kernel) rfl)
theorem ki_X9_waysOf : Cond.initialized (yX9_waysOf).cls ∈ gz_TB := (gz_in 88 (by decide +kernel) rfl)
theorem ks_X9_waysOf : Cond.instanceMethod yX9_waysOf ∈ gz_TB := (gz_in 1351 (by decide +kernel) rfl)
theorem kv_X9_waysOf : Cond.selects (yX9_waysOf).cls yX9_waysOf yX9_waysOf ∈ gz_TB := (gz_in 73 (by decide +kernel) rfl)
theorem kl_RX9_304 : gz_lk 1 RX9 304 mX9_waysOf 2 := ⟨kd_X9_waysOf, ki_X9_waysOf, Or.inl (gz_in 1349 (by decide +kernel) rfl), by decide, ⟨by decide +kernel, by decide +kernel, by decide +kernel⟩, fun z => absurd z (by decide), fun _ => ks_X9_waysOf, fun _ => kv_X9_waysOf, fun z => absurd z (by decide)⟩
theorem kd_X9_kindMany : Cond.code yX9_kindMany cX9_kindMany 4 (some .int) ∈ gz_TB := (gz_in 1390 (by decide +kernel) rfl)
theorem ki_X9_kindMany : Cond.initialized (yX9_kindMany).cls ∈ gz_TB := (gz_in 88 (by decide +kernel) rfl)
theorem ks_X9_kindMany : Cond.instanceMethod yX9_kindMany ∈ gz_TB := (gz_in 1389 (by decide +kernel) rfl)
theorem kv_X9_kindMany : Cond.selects (yX9_kindMany).cls yX9_kindMany yX9_kindMany ∈ gz_TB := (gz_in 75 (by decide +kernel) rfl)
theorem kl_RX9_320 : gz_lk 1 RX9 320 mX9_kindMany 1 := ⟨kd_X9_kindMany, ki_X9_kindMany, Or.inl (gz_in 1387 (by decide +kernel) rfl), by decide, ⟨by decide +kernel, by decide +kernel, by decide +kernel⟩, fun z => absurd z (by decide), fun _ => ks_X9_kindMany, fun _ => kv_X9_kindMany, fun z => absurd z (by decide)⟩
theorem kd_X9_thereOf : Cond.code yX9_thereOf cX9_thereOf 4 (some .int) ∈ gz_TB := (gz_in 1394 (by decide +kernel) rfl)
theorem ki_X9_thereOf : Cond.initialized (yX9_thereOf).cls ∈ gz_TB := (gz_in 88 (by decide +kernel) rfl)
theorem ks_X9_thereOf : Cond.instanceMethod yX9_thereOf ∈ gz_TB := (gz_in 1393 (by decide +kernel) rfl)
theorem kv_X9_thereOf : Cond.selects (yX9_thereOf).cls yX9_thereOf yX9_thereOf ∈ gz_TB := (gz_in 76 (by decide +kernel) rfl)
theorem kl_RX9_323 : gz_lk 1 RX9 323 mX9_thereOf 1 := ⟨kd_X9_thereOf, ki_X9_thereOf, Or.inl (gz_in 1391 (by decide +kernel) rfl), by decide, ⟨by decide +kernel, by decide +kernel, by decide +kernel⟩, fun z => absurd z (by decide), fun _ => ks_X9_thereOf, fun _ => kv_X9_thereOf, fun z => absurd z (by decide)⟩
theorem kd_X9_countOf : Cond.code yX9_countOf cX9_countOf 2 (some .int) ∈ gz_TB := (gz_in 1386 (by decide +kernel) rfl)
theorem ki_X9_countOf : Cond.initialized (yX9_countOf).cls ∈ gz_TB := (gz_in 88 (by decide +kernel) rfl)
theorem ks_X9_countOf : Cond.instanceMethod yX9_countOf ∈ gz_TB := (gz_in 1385 (by decide +kernel) rfl)
theorem kv_X9_countOf : Cond.selects (yX9_countOf).cls yX9_countOf yX9_countOf ∈ gz_TB := (gz_in 74 (by decide +kernel) rfl)
theorem kl_RX9_326 : gz_lk 1 RX9 326 mX9_countOf 1 := ⟨kd_X9_countOf, ki_X9_countOf, Or.inl (gz_in 1383 (by decide +kernel) rfl), by decide, ⟨by decide +kernel, by decide +kernel, by decide +kernel⟩, fun z => absurd z (by decide), fun _ => ks_X9_countOf, fun _ => kv_X9_countOf, fun z => absurd z (by decide)⟩
theorem kd_X7_init : Cond.code yX7_init cX7_init 3 none ∈ gz_TB := (gz_in 104 (by decide +kernel) rfl)
theorem ki_X7_init : Cond.initialized (yX7_init).cls ∈ gz_TB := (gz_in 79 (by decide +kernel) rfl)
theorem ks_X7_init : Cond.instanceMethod yX7_init ∈ gz_TB := (gz_in 103 (by decide +kernel) rfl)
theorem kl_RX8_11 : gz_lk 2 RX8 11 mX7_init 2 := ⟨kd_X7_init, ki_X7_init, Or.inl (gz_in 102 (by decide +kernel) rfl), by decide, ⟨by decide +kernel, by decide +kernel, by decide +kernel⟩, fun z => absurd z (by decide), fun _ => ks_X7_init, fun z => absurd z (by decide), fun _ => ⟨rfl, rfl⟩⟩
theorem kd_X5_init : Cond.code yX5_init cX5_init 1 none ∈ gz_TB := (gz_in 129 (by decide +kernel) rfl)
theorem ki_X5_init : Cond.initialized (yX5_init).cls ∈ gz_TB := (gz_in 81 (by decide +kernel) rfl)
theorem ks_X5_init : Cond.instanceMethod yX5_init ∈ gz_TB := (gz_in 128 (by decide +kernel) rfl)
theorem kl_RX8_23 : gz_lk 2 RX8 23 mX5_init 0 := ⟨kd_X5_init, ki_X5_init, Or.inr ⟨"MemoryGeese", (gz_inN 127 (by decide +kernel) rfl)⟩, by decide, ⟨by decide +kernel, by decide +kernel, by decide +kernel⟩, fun z => absurd z (by decide), fun _ => ks_X5_init, fun z => absurd z (by decide), fun _ => ⟨rfl, rfl⟩⟩
theorem kd_X0_init : Cond.code yX0_init cX0_init 1 none ∈ gz_TB := (gz_in 148 (by decide +kernel) rfl)
theorem ki_X0_init : Cond.initialized (yX0_init).cls ∈ gz_TB := (gz_in 82 (by decide +kernel) rfl)
theorem ks_X0_init : Cond.instanceMethod yX0_init ∈ gz_TB := (gz_in 147 (by decide +kernel) rfl)
theorem kl_RX8_30 : gz_lk 2 RX8 30 mX0_init 0 := ⟨kd_X0_init, ki_X0_init, Or.inr ⟨"MemoryGeese", (gz_inN 146 (by decide +kernel) rfl)⟩, by decide, ⟨by decide +kernel, by decide +kernel, by decide +kernel⟩, fun z => absurd z (by decide), fun _ => ks_X0_init, fun z => absurd z (by decide), fun _ => ⟨rfl, rfl⟩⟩
theorem kd_X4_init : Cond.code yX4_init cX4_init 1 none ∈ gz_TB := (gz_in 163 (by decide +kernel) rfl)
theorem ki_X4_init : Cond.initialized (yX4_init).cls ∈ gz_TB := (gz_in 83 (by decide +kernel) rfl)
theorem ks_X4_init : Cond.instanceMethod yX4_init ∈ gz_TB := (gz_in 162 (by decide +kernel) rfl)
theorem kl_RX8_37 : gz_lk 2 RX8 37 mX4_init 0 := ⟨kd_X4_init, ki_X4_init, Or.inr ⟨"MemoryGeese", (gz_inN 161 (by decide +kernel) rfl)⟩, by decide, ⟨by decide +kernel, by decide +kernel, by decide +kernel⟩, fun z => absurd z (by decide), fun _ => ks_X4_init, fun z => absurd z (by decide), fun _ => ⟨rfl, rfl⟩⟩
theorem kd_X6_init : Cond.code yX6_init cX6_init 1 none ∈ gz_TB := (gz_in 178 (by decide +kernel) rfl)
theorem ki_X6_init : Cond.initialized (yX6_init).cls ∈ gz_TB := (gz_in 84 (by decide +kernel) rfl)
theorem ks_X6_init : Cond.instanceMethod yX6_init ∈ gz_TB := (gz_in 177 (by decide +kernel) rfl)
theorem kl_RX8_44 : gz_lk 2 RX8 44 mX6_init 0 := ⟨kd_X6_init, ki_X6_init, Or.inr ⟨"MemoryGeese", (gz_inN 176 (by decide +kernel) rfl)⟩, by decide, ⟨by decide +kernel, by decide +kernel, by decide +kernel⟩, fun z => absurd z (by decide), fun _ => ks_X6_init, fun z => absurd z (by decide), fun _ => ⟨rfl, rfl⟩⟩
theorem kd_X2_init : Cond.code yX2_init cX2_init 1 none ∈ gz_TB := (gz_in 191 (by decide +kernel) rfl)
theorem ki_X2_init : Cond.initialized (yX2_init).cls ∈ gz_TB := (gz_in 85 (by decide +kernel) rfl)
theorem ks_X2_init : Cond.instanceMethod yX2_init ∈ gz_TB := (gz_in 190 (by decide +kernel) rfl)
theorem kl_RX8_51 : gz_lk 2 RX8 51 mX2_init 0 := ⟨kd_X2_init, ki_X2_init, Or.inr ⟨"MemoryGeese", (gz_inN 189 (by decide +kernel) rfl)⟩, by decide, ⟨by decide +kernel, by decide +kernel, by decide +kernel⟩, fun z => absurd z (by decide), fun _ => ks_X2_init, fun z => absurd z (by decide), fun _ => ⟨rfl, rfl⟩⟩
theorem kd_X3_init : Cond.code yX3_init cX3_init 1 none ∈ gz_TB := (gz_in 225 (by decide +kernel) rfl)
theorem ki_X3_init : Cond.initialized (yX3_init).cls ∈ gz_TB := (gz_in 86 (by decide +kernel) rfl)
theorem ks_X3_init : Cond.instanceMethod yX3_init ∈ gz_TB := (gz_in 224 (by decide +kernel) rfl)
theorem kl_RX8_58 : gz_lk 2 RX8 58 mX3_init 0 := ⟨kd_X3_init, ki_X3_init, Or.inr ⟨"MemoryGeese", (gz_inN 223 (by decide +kernel) rfl)⟩, by decide, ⟨by decide +kernel, by decide +kernel, by decide +kernel⟩, fun z => absurd z (by decide), fun _ => ks_X3_init, fun z => absurd z (by decide), fun _ => ⟨rfl, rfl⟩⟩
theorem kd_X1_init : Cond.code yX1_init cX1_init 2 none ∈ gz_TB := (gz_in 240 (by decide +kernel) rfl)
theorem ki_X1_init : Cond.initialized (yX1_init).cls ∈ gz_TB := (gz_in 87 (by decide +kernel) rfl)
theorem ks_X1_init : Cond.instanceMethod yX1_init ∈ gz_TB := (gz_in 239 (by decide +kernel) rfl)
theorem kl_RX8_69 : gz_lk 2 RX8 69 mX1_init 0 := ⟨kd_X1_init, ki_X1_init, Or.inl (gz_in 238 (by decide +kernel) rfl), by decide, ⟨by decide +kernel, by decide +kernel, by decide +kernel⟩, fun z => absurd z (by decide), fun _ => ks_X1_init, fun z => absurd z (by decide), fun _ => ⟨rfl, rfl⟩⟩
theorem kl_RX1_21 : gz_lk 2 RX1 21 mX2_init 0 := ⟨kd_X2_init, ki_X2_init, Or.inr ⟨"MemoryGeese", (gz_inN 244 (by decide +kernel) rfl)⟩, by decide, ⟨by decide +kernel, by decide +kernel, by decide +kernel⟩, fun z => absurd z (by decide), fun _ => ks_X2_init, fun z => absurd z (by decide), fun _ => ⟨rfl, rfl⟩⟩
theorem kd_X8_init : Cond.code yX8_init cX8_init 2 none ∈ gz_TB := (gz_in 96 (by decide +kernel) rfl)
theorem ki_X8_init : Cond.initialized (yX8_init).cls ∈ gz_TB := (gz_in 78 (by decide +kernel) rfl)
theorem ks_X8_init : Cond.instanceMethod yX8_init ∈ gz_TB := (gz_in 95 (by decide +kernel) rfl)
theorem kl_RL_9 : gz_lk 2 RL 9 mX8_init 0 := ⟨kd_X8_init, ki_X8_init, Or.inl (gz_in 94 (by decide +kernel) rfl), by decide, ⟨by decide +kernel, by decide +kernel, by decide +kernel⟩, fun z => absurd z (by decide), fun _ => ks_X8_init, fun z => absurd z (by decide), fun _ => ⟨rfl, rfl⟩⟩
theorem kd_X9_init : Cond.code yX9_init cX9_init 2 none ∈ gz_TB := (gz_in 889 (by decide +kernel) rfl)
theorem ki_X9_init : Cond.initialized (yX9_init).cls ∈ gz_TB := (gz_in 88 (by decide +kernel) rfl)
theorem ks_X9_init : Cond.instanceMethod yX9_init ∈ gz_TB := (gz_in 888 (by decide +kernel) rfl)
theorem kl_RL_12 : gz_lk 2 RL 12 mX9_init 0 := ⟨kd_X9_init, ki_X9_init, Or.inl (gz_in 887 (by decide +kernel) rfl), by decide, ⟨by decide +kernel, by decide +kernel, by decide +kernel⟩, fun z => absurd z (by decide), fun _ => ks_X9_init, fun z => absurd z (by decide), fun _ => ⟨rfl, rfl⟩⟩
theorem kcp_RX8_136 : gz_lkC RX8 136 := ⟨(gz_in 372 (by decide +kernel) rfl), (gz_in 374 (by decide +kernel) rfl), (gz_in 373 (by decide +kernel) rfl), (gz_in 89 (by decide +kernel) rfl)⟩
theorem kcp_RX1_22 : gz_lkC RX1 22 := ⟨(gz_in 462 (by decide +kernel) rfl), (gz_in 374 (by decide +kernel) rfl), (gz_in 373 (by decide +kernel) rfl), (gz_in 89 (by decide +kernel) rfl)⟩
theorem kcp_RX2_36 : gz_lkC RX2 36 := ⟨(gz_in 468 (by decide +kernel) rfl), (gz_in 374 (by decide +kernel) rfl), (gz_in 373 (by decide +kernel) rfl), (gz_in 89 (by decide +kernel) rfl)⟩
theorem kcp_RX3_15 : gz_lkC RX3 15 := ⟨(gz_in 630 (by decide +kernel) rfl), (gz_in 374 (by decide +kernel) rfl), (gz_in 373 (by decide +kernel) rfl), (gz_in 89 (by decide +kernel) rfl)⟩
theorem kob_RX8_1 : gz_lkO RX8 1 := ⟨(gz_in 97 (by decide +kernel) rfl), (gz_in 98 (by decide +kernel) rfl), (gz_in 99 (by decide +kernel) rfl)⟩
theorem kob_RX0_3 : gz_lkO RX0 3 := ⟨(gz_in 149 (by decide +kernel) rfl), (gz_in 98 (by decide +kernel) rfl), (gz_in 99 (by decide +kernel) rfl)⟩
theorem kob_RX1_3 : gz_lkO RX1 3 := ⟨(gz_in 241 (by decide +kernel) rfl), (gz_in 98 (by decide +kernel) rfl), (gz_in 99 (by decide +kernel) rfl)⟩
theorem kob_RX2_3 : gz_lkO RX2 3 := ⟨(gz_in 192 (by decide +kernel) rfl), (gz_in 98 (by decide +kernel) rfl), (gz_in 99 (by decide +kernel) rfl)⟩
theorem kob_RX3_3 : gz_lkO RX3 3 := ⟨(gz_in 226 (by decide +kernel) rfl), (gz_in 98 (by decide +kernel) rfl), (gz_in 99 (by decide +kernel) rfl)⟩
theorem kob_RX4_1 : gz_lkO RX4 1 := ⟨(gz_in 164 (by decide +kernel) rfl), (gz_in 98 (by decide +kernel) rfl), (gz_in 99 (by decide +kernel) rfl)⟩
theorem kob_RX5_3 : gz_lkO RX5 3 := ⟨(gz_in 130 (by decide +kernel) rfl), (gz_in 98 (by decide +kernel) rfl), (gz_in 99 (by decide +kernel) rfl)⟩
theorem kob_RX6_3 : gz_lkO RX6 3 := ⟨(gz_in 179 (by decide +kernel) rfl), (gz_in 98 (by decide +kernel) rfl), (gz_in 99 (by decide +kernel) rfl)⟩
theorem kob_RX7_3 : gz_lkO RX7 3 := ⟨(gz_in 105 (by decide +kernel) rfl), (gz_in 98 (by decide +kernel) rfl), (gz_in 99 (by decide +kernel) rfl)⟩
theorem kob_RX9_1 : gz_lkO RX9 1 := ⟨(gz_in 890 (by decide +kernel) rfl), (gz_in 98 (by decide +kernel) rfl), (gz_in 99 (by decide +kernel) rfl)⟩
theorem kn_RX8_7 : gz_lkN RX8 7 7 3 := ⟨RX7, TX7, rfl, (gz_in 100 (by decide +kernel) rfl), (gz_in 101 (by decide +kernel) rfl), (gz_in 79 (by decide +kernel) rfl)⟩
theorem kn_RX8_21 : gz_lkN RX8 21 5 4 := ⟨RX5, TX5, rfl, (gz_in 125 (by decide +kernel) rfl), (gz_in 126 (by decide +kernel) rfl), (gz_in 81 (by decide +kernel) rfl)⟩
theorem kn_RX8_28 : gz_lkN RX8 28 0 2 := ⟨RX0, TX0, rfl, (gz_in 144 (by decide +kernel) rfl), (gz_in 145 (by decide +kernel) rfl), (gz_in 82 (by decide +kernel) rfl)⟩
theorem kn_RX8_35 : gz_lkN RX8 35 4 2 := ⟨RX4, TX4, rfl, (gz_in 159 (by decide +kernel) rfl), (gz_in 160 (by decide +kernel) rfl), (gz_in 83 (by decide +kernel) rfl)⟩
theorem kn_RX8_42 : gz_lkN RX8 42 6 2 := ⟨RX6, TX6, rfl, (gz_in 174 (by decide +kernel) rfl), (gz_in 175 (by decide +kernel) rfl), (gz_in 84 (by decide +kernel) rfl)⟩
theorem kn_RX8_49 : gz_lkN RX8 49 2 6 := ⟨RX2, TX2, rfl, (gz_in 187 (by decide +kernel) rfl), (gz_in 188 (by decide +kernel) rfl), (gz_in 85 (by decide +kernel) rfl)⟩
theorem kn_RX8_56 : gz_lkN RX8 56 3 2 := ⟨RX3, TX3, rfl, (gz_in 221 (by decide +kernel) rfl), (gz_in 222 (by decide +kernel) rfl), (gz_in 86 (by decide +kernel) rfl)⟩
theorem kn_RX8_67 : gz_lkN RX8 67 1 4 := ⟨RX1, TX1, rfl, (gz_in 236 (by decide +kernel) rfl), (gz_in 237 (by decide +kernel) rfl), (gz_in 87 (by decide +kernel) rfl)⟩
theorem kn_RX1_15 : gz_lkN RX1 15 2 6 := ⟨RX2, TX2, rfl, (gz_in 242 (by decide +kernel) rfl), (gz_in 188 (by decide +kernel) rfl), (gz_in 85 (by decide +kernel) rfl)⟩
theorem kn_RL_7 : gz_lkN RL 7 8 19 := ⟨RX8, TX8, rfl, (gz_in 92 (by decide +kernel) rfl), (gz_in 93 (by decide +kernel) rfl), (gz_in 78 (by decide +kernel) rfl)⟩
theorem kn_RL_10 : gz_lkN RL 10 9 29 := ⟨RX9, TX9, rfl, (gz_in 885 (by decide +kernel) rfl), (gz_in 886 (by decide +kernel) rfl), (gz_in 88 (by decide +kernel) rfl)⟩
theorem kcl_RX8_56 : Cond.classLink RX8 56 RX3 ∈ gz_TB := (gz_in 221 (by decide +kernel) rfl)
theorem kcl_RX1_15 : Cond.classLink RX1 15 RX2 ∈ gz_TB := (gz_in 242 (by decide +kernel) rfl)
theorem kc_RX8_296 : Cond.constant RX8 296 (2147483646) ∈ gz_TB := (gz_in 811 (by decide +kernel) rfl)
theorem kc_RJ6_264 : Cond.constant RJ6 264 (65536) ∈ gz_TB := (gz_in 681 (by decide +kernel) rfl)
theorem kc_RJ6_265 : Cond.constant RJ6 265 (1431655765) ∈ gz_TB := (gz_in 526 (by decide +kernel) rfl)
theorem kc_RJ6_266 : Cond.constant RJ6 266 (858993459) ∈ gz_TB := (gz_in 527 (by decide +kernel) rfl)
theorem kc_RJ6_267 : Cond.constant RJ6 267 (252645135) ∈ gz_TB := (gz_in 528 (by decide +kernel) rfl)
theorem kc_RX8_259 : Cond.constantLong RX8 259 (60) ∈ gz_TB := (gz_in 749 (by decide +kernel) rfl)
theorem kc_RX8_297 : Cond.constantLong RX8 297 (48271) ∈ gz_TB := (gz_in 812 (by decide +kernel) rfl)
theorem kc_RX8_299 : Cond.constantLong RX8 299 (2147483647) ∈ gz_TB := (gz_in 813 (by decide +kernel) rfl)
theorem kc_RX8_321 : Cond.constantLong RX8 321 (17) ∈ gz_TB := (gz_in 867 (by decide +kernel) rfl)
theorem kc_RX8_323 : Cond.constantLong RX8 323 (31) ∈ gz_TB := (gz_in 868 (by decide +kernel) rfl)
theorem kc_RX8_352 : Cond.constantLong RX8 352 (8) ∈ gz_TB := (gz_in 818 (by decide +kernel) rfl)
theorem kc_RX8_354 : Cond.constantLong RX8 354 (4) ∈ gz_TB := (gz_in 819 (by decide +kernel) rfl)
theorem kc_RX8_356 : Cond.constantLong RX8 356 (64) ∈ gz_TB := (gz_in 820 (by decide +kernel) rfl)
theorem kc_RX1_125 : Cond.constantLong RX1 125 (31) ∈ gz_TB := (gz_in 873 (by decide +kernel) rfl)
theorem kc_RX2_72 : Cond.constantLong RX2 72 (31) ∈ gz_TB := (gz_in 878 (by decide +kernel) rfl)
theorem kc_RX7_34 : Cond.constantLong RX7 34 (31) ∈ gz_TB := (gz_in 884 (by decide +kernel) rfl)
theorem kc_RX9_72 : Cond.constantLong RX9 72 (5) ∈ gz_TB := (gz_in 986 (by decide +kernel) rfl)
theorem kc_RX9_78 : Cond.constantLong RX9 78 (3) ∈ gz_TB := (gz_in 1037 (by decide +kernel) rfl)
theorem kc_RX9_119 : Cond.constantLong RX9 119 (48) ∈ gz_TB := (gz_in 1066 (by decide +kernel) rfl)
theorem kc_RX9_121 : Cond.constantLong RX9 121 (57) ∈ gz_TB := (gz_in 1067 (by decide +kernel) rfl)
theorem kc_RX9_199 : Cond.constantLong RX9 199 (6) ∈ gz_TB := (gz_in 1094 (by decide +kernel) rfl)
theorem kc_RX9_240 : Cond.constantLong RX9 240 (2) ∈ gz_TB := (gz_in 1216 (by decide +kernel) rfl)
theorem kc_RX9_281 : Cond.constantLong RX9 281 (60) ∈ gz_TB := (gz_in 1311 (by decide +kernel) rfl)
theorem kc_RX9_299 : Cond.constantLong RX9 299 (12) ∈ gz_TB := (gz_in 1344 (by decide +kernel) rfl)
theorem kc_RX9_308 : Cond.constantLong RX9 308 (2147483646) ∈ gz_TB := (gz_in 1361 (by decide +kernel) rfl)
theorem kc_RX9_310 : Cond.constantLong RX9 310 (48271) ∈ gz_TB := (gz_in 1362 (by decide +kernel) rfl)
theorem kc_RX9_312 : Cond.constantLong RX9 312 (2147483647) ∈ gz_TB := (gz_in 1363 (by decide +kernel) rfl)
theorem kc_RX9_314 : Cond.constantLong RX9 314 (8) ∈ gz_TB := (gz_in 1364 (by decide +kernel) rfl)
theorem kc_RX9_316 : Cond.constantLong RX9 316 (4) ∈ gz_TB := (gz_in 1365 (by decide +kernel) rfl)
theorem kc_RX9_318 : Cond.constantLong RX9 318 (64) ∈ gz_TB := (gz_in 1366 (by decide +kernel) rfl)
theorem kc_RX9_329 : Cond.constantLong RX9 329 (17) ∈ gz_TB := (gz_in 1407 (by decide +kernel) rfl)
theorem kc_RX9_331 : Cond.constantLong RX9 331 (31) ∈ gz_TB := (gz_in 1408 (by decide +kernel) rfl)
theorem kg_letters : Cond.fieldLinkNest RX5 74 RX8 "LETTERS" "[C" "MemoryGeese" ∈ gz_NW := (gz_inN 415 (by decide +kernel) rfl)
theorem kw_int : Cond.arrayClass .int ∈ gz_TB := (gz_in 124 (by decide +kernel) rfl)
theorem kw_iia : Cond.classLink RX7 15 ("[" ++ (FieldType.array .int).toString) ∈ gz_TB := (gz_in 106 (by decide +kernel) rfl)
theorem gz_tout {x : Int32} {lw hg : Int} (n : Nat) (h : ∀ k : Nat, k < n → x ≠ Int32.ofInt (lw + k)) (hn : hg - lw + 1 = (n : Int) := by decide) : x.toInt < lw ∨ hg < x.toInt := by
  rcases Int.lt_or_le x.toInt lw with h1 | h1
  · exact Or.inl h1
  · rcases Int.lt_or_le hg x.toInt with h2 | h2
    · exact Or.inr h2
    · refine absurd ?_ (h (x.toInt - lw).toNat (by omega))
      have e : lw + ((x.toInt - lw).toNat : Int) = x.toInt := by omega
      rw [e]
      exact (Int32.ofInt_toInt x).symm
