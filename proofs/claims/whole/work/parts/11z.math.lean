theorem kmx_RX8_382 : gz_lkI RX8 382 := ⟨(gz_in 718 (by decide +kernel) rfl), (gz_in 719 (by decide +kernel) rfl), (gz_in 91 (by decide +kernel) rfl), (gz_in 720 (by decide +kernel) rfl)⟩
theorem kmx_RX8_248 : gz_lkX RX8 248 := ⟨(gz_in 730 (by decide +kernel) rfl), (gz_in 731 (by decide +kernel) rfl), (gz_in 91 (by decide +kernel) rfl), (gz_in 732 (by decide +kernel) rfl)⟩
